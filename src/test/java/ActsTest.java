/** Promises 14 to 19, 35 and 39: acts, the log, counts. */
public final class ActsTest {
    public static void main(String[] args) {
        goes();
        waits();
        pays();
        gifts();
        takesAndLays();
        frees();
        refusalsChangeNothing();
        Checks.finish("ActsTest");
    }

    private static void goes() {
        GlassHill x = Checks.told("place;place;place;road 0 1 long 2;road 2 1 long 3;road 1 0 long 1;keeper 1 lock 0 0;"
            + "thing 0 worth 1 at 1;keeper 2 lock 0 0 eats 8 to 9");
        Checks.illegalState("go(1) from elsewhere", () -> x.go(1));
        Checks.outOfBounds("go(3)", () -> x.go(3));
        Checks.outOfBounds("go(-1)", () -> x.go(-1));
        Checks.due("go(0)", 2, x.go(0));
        Checks.due("at 1", 1, x.girl(0));
        Checks.due("came by 0", 0, x.girl(2));
        Checks.illegalState("not let pass", () -> x.go(1));
        Checks.illegalState("another road to the same place", () -> x.go(2));
        Checks.due("by which she came", 4, x.go(0));
        Checks.due("go(2)", 5, x.go(2));
        Checks.illegalState("now not by 0", () -> x.go(0));
        x.take(0);
        x.pay(0);
        Checks.illegalState("he eats at 8", () -> x.go(1));
        x.delay(1);
        Checks.illegalState("he eats at 9", () -> x.go(1));
        x.delay(1);
        Checks.due("he eats no more at 10", 10, x.go(1));
        Checks.due("back by 1, though he did not let her pass", 13, x.go(1));
        Checks.due("passed for good", 14, x.go(2));
        Checks.due("time", 14, x.count(7));
    }

    private static void waits() {
        GlassHill x = Checks.told("place;keeper 0 lock 0 0 eats 5 to 7");
        Checks.illegalArgument("delay(0)", () -> x.delay(0));
        Checks.illegalArgument("delay(49)", () -> x.delay(49));
        Checks.illegalArgument("delay(-1)", () -> x.delay(-1));
        Checks.due("till he eats", 4, x.delay(48));
        Checks.illegalState("not even one", () -> x.delay(1));
        Checks.illegalArgument("a wrong number first", () -> x.delay(0));
        GlassHill y = Checks.told("place;keeper 0 lock 0 0 eats 0 to 0");
        Checks.due("from within his meal on", 23, y.delay(48));
        GlassHill z = Checks.told("place");
        Checks.due("48", 48, z.delay(48));
        Checks.due("1", 1, z.delay(1));
        Checks.due("time", 49, z.girl(1));
    }

    private static void pays() {
        GlassHill x = Checks.told("place;place;road 0 1 long 3;thing 1 worth 10 at 0;thing 2 worth 20 at 0;thing 3 worth 30 at 0;"
            + "keeper 1 lock 1 1 takes;keeper 0 lock 2 2");
        Checks.illegalState("not carried", () -> x.pay(1));
        x.take(0);
        x.take(1);
        x.take(2);
        Checks.illegalState("does not fit", () -> x.pay(0));
        Checks.outOfBounds("pay(3)", () -> x.pay(3));
        Checks.outOfBounds("pay(-1)", () -> x.pay(-1));
        Checks.due("log ahead", -1, x.log(0, 0));
        Checks.due("shown alone", -1, x.pay(1));
        Checks.due("still carried", 7, x.girl(3));
        Checks.due("passed", 1, x.place(0, 7));
        Checks.illegalState("only once", () -> x.pay(1));
        x.go(0);
        Checks.due("taken", -1, x.pay(2));
        Checks.due("lost", 3, x.thing(2, 2));
        Checks.due("nowhere", -1, x.thing(2, 3));
        Checks.due("carried", 3, x.girl(3));
        Checks.due("worth carried", 30, x.girl(4));
        Checks.due("passed", 3, x.count(8));
        Checks.due("lost", 4, x.count(10));
        Checks.due("lost worth", 30, x.count(11));
        int[][] log = {{0, 1, 0}, {1, 2, 3}};
        for (int k = 0; k < 2; k++) {
            for (int what = 0; what < 3; what++) {
                Checks.due("log(" + k + ", " + what + ")", log[k][what], x.log(k, what));
            }
        }
        Checks.due("log(2, 0)", -1, x.log(2, 0));
        Checks.due("log(-1, 2)", -1, x.log(-1, 2));
        Checks.due("log(MAX, 1)", -1, x.log(Integer.MAX_VALUE, 1));
        Checks.noSuchElement("log(0, 3)", () -> x.log(0, 3));
        Checks.noSuchElement("log(0, -1)", () -> x.log(0, -1));
        Checks.noSuchElement("log(9, 3)", () -> x.log(9, 3));
        GlassHill y = Checks.told("place;thing 1 worth 1 at 0");
        y.take(0);
        Checks.illegalState("no keeper", () -> y.pay(0));
    }

    private static void gifts() {
        String four = "place;thing 0 worth 1 at 0;thing 0 worth 1 at 0;thing 0 worth 1 at 0;thing 0 worth 1 at 0;";
        GlassHill x = Checks.told(four + "keeper 0 lock 0 0 takes has 5 worth 9");
        for (int t = 0; t < 4; t++) {
            Checks.due("take " + t, t + 1, x.take(t));
        }
        Checks.illegalState("had, not lying", () -> x.take(4));
        Checks.due("what he has", 4, x.place(0, 6));
        Checks.due("what he took made room", 4, x.pay(0));
        Checks.due("carried", 30, x.girl(3));
        Checks.due("he has none", -1, x.place(0, 6));
        Checks.due("carried one's place", -1, x.thing(4, 3));
        GlassHill y = Checks.told(four + "keeper 0 lock 0 0 has 5 worth 9");
        for (int t = 0; t < 4; t++) {
            y.take(t);
        }
        Checks.due("no room", 4, y.pay(0));
        Checks.due("it lies there", 0, y.thing(4, 2));
        Checks.due("there", 0, y.thing(4, 3));
        Checks.due("he has none", -1, y.place(0, 6));
        Checks.due("lies", 16, y.place(0, 8));
    }

    private static void takesAndLays() {
        GlassHill x = Checks.told("place;place;road 0 1 long 1;thing 1 worth 5 at 0;thing 2 worth 6 at 1");
        Checks.illegalState("elsewhere", () -> x.take(1));
        Checks.outOfBounds("take(2)", () -> x.take(2));
        Checks.outOfBounds("lay(2)", () -> x.lay(2));
        Checks.outOfBounds("lay(-1)", () -> x.lay(-1));
        Checks.illegalState("not carried", () -> x.lay(0));
        Checks.due("take", 1, x.take(0));
        Checks.illegalState("twice", () -> x.take(0));
        x.go(0);
        Checks.due("take", 2, x.take(1));
        Checks.due("lay", 1, x.lay(0));
        Checks.due("lies at 1", 1, x.thing(0, 3));
        Checks.due("lies", 1, x.place(1, 8));
        Checks.due("not at 0", 0, x.place(0, 8));
        Checks.due("worth", 6, x.girl(4));
        Checks.due("take again", 2, x.take(0));
    }

    private static void frees() {
        GlassHill x = Checks.told("place;place;road 0 1 long 7;thing 1 worth 5 at 0;brother 1 lock 1 1 way 30 due 3;"
            + "brother 0 lock 2 2 way 0 due 0;brother 1 lock 3 1 way 2 due 0");
        Checks.illegalState("elsewhere", () -> x.free(0));
        Checks.outOfBounds("free(3)", () -> x.free(3));
        Checks.outOfBounds("free(-1)", () -> x.free(-1));
        x.take(0);
        Checks.illegalState("nothing fits", () -> x.free(1));
        x.go(0);
        Checks.due("free", 1, x.free(2));
        Checks.illegalState("once", () -> x.free(2));
        Checks.due("free", 2, x.free(0));
        Checks.due("it stays hers", 1, x.girl(3));
        Checks.due("freed at", 7, x.brother(0, 5));
        Checks.due("home", 37, x.brother(0, 6));
        Checks.due("home", 9, x.brother(2, 6));
        Checks.due("not freed", -1, x.brother(1, 6));
        Checks.due("set", 5, x.count(9));
        GlassHill y = Checks.told("place;thing 1 worth 5 at 0;brother 0 lock 0 0 way 0 due 0");
        Checks.illegalState("nothing carried", () -> y.free(0));
    }

    private static void refusalsChangeNothing() {
        GlassHill x = Checks.told("place;place;road 0 1 long 7;keeper 0 lock 1 1;thing 1 worth 5 at 1;brother 1 lock 1 1 way 3 due 3");
        Checks.illegalState("go", () -> x.go(0));
        Checks.illegalState("pay", () -> x.pay(0));
        Checks.illegalState("take", () -> x.take(0));
        Checks.illegalState("lay", () -> x.lay(0));
        Checks.illegalState("free", () -> x.free(0));
        int[] counts = {2, 1, 1, 1, 1, 1, -1, 0, 0, 0, 0, 0, 0};
        for (int what = 0; what < counts.length; what++) {
            Checks.due("count(" + what + ")", counts[what], x.count(what));
        }
        Checks.due("girl at", 0, x.girl(0));
        Checks.due("girl came", -1, x.girl(2));
    }
}
