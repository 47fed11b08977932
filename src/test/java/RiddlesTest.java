/** Promises 30 to 33: the gate, plates, locks, shirts. */
public final class RiddlesTest {
    public static void main(String[] args) {
        gate();
        gateWaits();
        plates();
        locks();
        shirts();
        Checks.finish("RiddlesTest");
    }

    private static void order(String name, GlassHill x, int late, int... order) {
        Checks.due(name + ": lateness", late, x.gate(-1));
        for (int k = 0; k < order.length; k++) {
            Checks.due(name + ": gate(" + k + ")", order[k], x.gate(k));
        }
        Checks.due(name + ": beyond", -1, x.gate(order.length));
        Checks.due(name + ": below", -1, x.gate(-2));
        Checks.due(name + ": MAX", -1, x.gate(Integer.MAX_VALUE));
        Checks.due(name + ": MIN", -1, x.gate(Integer.MIN_VALUE));
    }

    private static void gate() {
        order("none", Checks.freed(), 0);
        order("one in time", Checks.freed("way 5 due 5"), 0, 0);
        order("one late", Checks.freed("way 5 due 3"), 2, 0);
        order("in any order", Checks.freed("way 0 due 9", "way 0 due 9", "way 0 due 9"), 0, 0, 1, 2);
        order("the last must be first", Checks.freed("way 0 due 2", "way 0 due 2", "way 0 due 0"), 0, 2, 0, 1);
        order("the first by numbers of those that are least late", Checks.freed("way 0 due 5", "way 0 due 0", "way 0 due 3",
            "way 0 due 0"), 1, 1, 3, 0, 2);
        order("all at the same due", Checks.freed("way 0 due 0", "way 0 due 0", "way 0 due 0", "way 0 due 0",
            "way 0 due 0", "way 0 due 0", "way 0 due 0"), 6, 0, 1, 2, 3, 4, 5, 6);
        order("turned round", Checks.freed("way 0 due 6", "way 0 due 5", "way 0 due 4", "way 0 due 3",
            "way 0 due 2", "way 0 due 1", "way 0 due 0"), 0, 6, 5, 4, 3, 2, 1, 0);
    }

    /** The gate waits for nobody but the next one in the order. */
    private static void gateWaits() {
        order("the one who is home late is let wait for", Checks.freed("way 10 due 10", "way 0 due 11"), 0, 0, 1);
        order("else he would be late", Checks.freed("way 10 due 10", "way 0 due 10"), 0, 1, 0);
        order("ties at home", Checks.freed("way 3 due 3", "way 3 due 3"), 1, 0, 1);
        GlassHill x = Checks.told("place;place;road 0 1 long 4;thing 0 worth 1 at 0;brother 1 lock 0 0 way 1 due 2;"
            + "brother 0 lock 0 0 way 9 due 9;brother 0 lock 1 1 way 0 due 0");
        x.take(0);
        x.free(1);
        x.go(0);
        x.free(0);
        // homes: 5 of the first, 9 of the second; the third is not freed.
        order("by homes", x, 3, 0, 1);
    }

    private static void plates() {
        GlassHill x = Checks.told("place;brother 0 lock 1 1 way 26 due 0;brother 0 lock 0 0 way 5 due 0;brother 0 lock 8 0 way 47 due 0");
        plate(x, 0, -1, 1, 15);
        plate(x, -1, 0, 1, 15);
        plate(x, 1, -1, 2, 15);
        plate(x, 0, -1, 2, 14);
        plate(x, 1, -1, 2, 15, 15, 1);
        plate(x, 1, 1, 2, 15, 15, 1);
        plate(x, 2, -1, 5, 15);
        plate(x, 0, 0, 5, 15);
        plate(x, 1, 0, 5, 14);
        plate(x, 0, -1, 4, 8);
        plate(x, 1, -1, 23, 8);
        plate(x, 3, -1, 23, 1);
        plate(x, 0, 0, 23, 1);
        plate(x, 6, -1, 23, 1, 23, 1, 23, 1);
        plate(x, 0, 0, 23, 1, 23, 1, 23, 1);
        plate(x, 2, 2, 23, 1, 23, 1, 23, 1);
        plate(x, 0, -1, 23, 1, 23, 1, 23, 1, 23, 1);
        plate(x, -1, 3, 23, 1, 23, 1, 23, 1, 23, 1);
        // The first could be his, 0, but then none is left for the second.
        plate(x, 1, 0, 5, 1, 4, 1);
        plate(x, 0, 1, 5, 1, 4, 1);
        plate(x, 1, -1, 5, 1, 4, 1);
        plate(x, 1, -1);
        wrongPlate(x, 0);
        wrongPlate(x, -2);
        wrongPlate(x, 1, 5, 1);
        wrongPlate(x, -2, 5, 1);
        wrongPlate(x, Integer.MAX_VALUE, 5, 1);
        wrongPlate(x, -1, 5);
        wrongPlate(x, -1, 24, 1);
        wrongPlate(x, -1, 5, 16);
        wrongPlate(x, -1, 5, 255);
        wrongPlate(x, -1, 5, 1, 5, 1, 5, 1, 5, 1, 5, 1, 5, 1, 5, 1, 5, 1);
        plate(x, 0, -1, 5, 1, 5, 1, 5, 1, 5, 1, 5, 1, 5, 1, 5, 1);
        plate(new GlassHill(), 1, -1);
        plate(new GlassHill(), 0, -1, 5, 1);
        GlassHill y = Checks.told("place", "brother 0 lock 0 0 way 0 due 0;brother 0 lock 0 0 way 0 due 0;brother 0 lock 0 0 way 0 due 0;"
            + "brother 0 lock 0 0 way 0 due 0;brother 0 lock 0 0 way 0 due 0;brother 0 lock 0 0 way 0 due 0;brother 0 lock 0 0 way 0 due 0");
        plate(y, 5040, -1, 0, 0, 0, 0, 0, 0, 0, 0, 0, 0, 0, 0, 0, 0);
        plate(y, 6, 6, 0, 0, 0, 0, 0, 0, 0, 0, 0, 0, 0, 0, 0, 0);
    }

    private static void plate(GlassHill x, int want, int k, int... bytes) {
        Checks.tape(x, bytes);
        Checks.due("plates(" + k + ") of " + java.util.Arrays.toString(bytes), want, x.plates(k));
        Checks.due("the tape is used up", 20, x.feed(0, 0, 0, 0, 0));
    }

    private static void wrongPlate(GlassHill x, int k, int... bytes) {
        Checks.tape(x, bytes);
        Checks.illegalArgument("plates(" + k + ") of " + java.util.Arrays.toString(bytes), () -> x.plates(k));
        Checks.due("the tape is used up", 20, x.feed(0, 0, 0, 0, 0));
    }

    private static void locks() {
        GlassHill x = new GlassHill();
        lock(x, 81, 0);
        lock(x, 16, 0x00, 5, 1);
        // Not 5: 81 less the 16 that 5 fits; with one bit the least mask, then the least value that 5 has not.
        lock(x, 65, 0x10, 5, 0);
        lock(x, 1, 0xf5, 5, 1, 4, 0, 7, 0, 1, 0, 13, 0);
        lock(x, 0, -1, 5, 1, 5, 0);
        lock(x, 16, 0x00, 5, 1, 5, 1);
        // 4 passed, 5 and 0 not: bit 0 must be 0, bit 2 must be 1.
        lock(x, 4, 0x54, 4, 1, 5, 0, 0, 0);
        wrongLock(x, 5);
        wrongLock(x, 16, 1);
        wrongLock(x, 5, 2);
        wrongLock(x, 5, 1, 255, 0);
        int[] most = new int[400];
        java.util.Arrays.fill(most, 1);
        lock(x, 16, 0x00, most);
        most[398] = 0;
        lock(x, 8, 0x00, most);
        most[399] = 0;
        lock(x, 8, 0x11, most);
    }

    private static void lock(GlassHill x, int many, int least, int... bytes) {
        Checks.tape(x, bytes);
        Checks.due("locks of " + java.util.Arrays.toString(bytes), many, x.locks(false));
        Checks.tape(x, bytes);
        Checks.due("least of " + java.util.Arrays.toString(bytes), least, x.locks(true));
        Checks.due("the tape is used up", 20, x.feed(0, 0, 0, 0, 0));
    }

    private static void wrongLock(GlassHill x, int... bytes) {
        Checks.tape(x, bytes);
        Checks.illegalArgument("locks of " + java.util.Arrays.toString(bytes), () -> x.locks(true));
        Checks.due("the tape is used up", 20, x.feed(0, 0, 0, 0, 0));
    }

    private static void shirts() {
        GlassHill x = new GlassHill();
        int[][] wrong = {{0, 1}, {65, 1}, {1, 0}, {1, 10}, {-1, -1}, {Integer.MIN_VALUE, 3}, {3, Integer.MAX_VALUE}};
        for (int[] w : wrong) {
            Checks.illegalArgument("shirts(" + w[0] + ", " + w[1] + ")", () -> x.shirts(w[0], w[1], 0, false));
            Checks.illegalArgument("dumb(" + w[0] + ", " + w[1] + ")", () -> x.shirts(w[0], w[1], 0, true));
        }
        Checks.due("too short", 0, x.shirts(8, 9, 0, false));
        Checks.due("just enough", 1, x.shirts(9, 9, 0, false));
        Checks.due("64 hours", 64, x.shirts(64, 1, 0, false));
        Checks.due("64 hours, the last spoken in", 63, x.shirts(64, 1, Long.MIN_VALUE, false));
        Checks.due("and dumb", 64, x.shirts(64, 1, Long.MIN_VALUE, true));
        Checks.due("what is done stays", 2, x.shirts(7, 3, 1L << 3, false));
        Checks.due("what is begun is undone", 1, x.shirts(7, 3, 1L << 2, false));
        Checks.due("the best of several", 2, x.shirts(7, 3, 1L << 2 | 1L << 6, true));
        Checks.due("bits beyond count for nothing", 2, x.shirts(7, 3, -1L << 7, false));
        Checks.due("nor do they for dumb", 1, x.shirts(7, 3, -1L << 7 | 1L << 2, false));
        Checks.due("nothing to be dumb for", 2, x.shirts(7, 3, 0, true));
        Checks.due("always speaking", 0, x.shirts(64, 2, -1, true));
        Checks.due("joined by being dumb", 1, x.shirts(5, 5, 1L << 2, true));
        Checks.due("two bars are one too many", 0, x.shirts(5, 5, 1L << 2 | 1, true));
    }
}
