/** Promises 24 to 29 and 34: what stands in, what is needed, ways, meeting, the sign. */
public final class WaysTest {
    public static void main(String[] args) {
        stands();
        needed();
        far();
        turnBack();
        meet();
        surest();
        sign();
        Checks.finish("WaysTest");
    }

    private static void stands() {
        GlassHill x = Checks.told("place;place;road 0 1 long 1;thing 1 worth 9 at 0;thing 3 worth 5 at 1;thing 5 worth 5 at 0;thing 8 worth 1 at 0;"
            + "keeper 0 lock 1 1 takes has 9 worth 5;brother 1 lock 2 2 way 0 due 0");
        Checks.due("for 1: whatever opens the keeper", 2 + 4 + 16, x.stands(0, false));
        Checks.due("the cheapest, of several the first", 1, x.stands(0, true));
        Checks.due("for 3: none opens both", 0, x.stands(1, false));
        Checks.due("none", -1, x.stands(1, true));
        Checks.due("for 8, that opens nothing: all", 1 + 2 + 4 + 16, x.stands(3, false));
        Checks.due("the cheapest", 1, x.stands(3, true));
        Checks.outOfBounds("stands(5)", () -> x.stands(5, true));
        Checks.outOfBounds("stands(-1)", () -> x.stands(-1, false));
        x.take(2);
        x.pay(2);
        Checks.due("the keeper is passed, one is lost", 2 + 8 + 16, x.stands(0, false));
        Checks.due("the cheapest", 3, x.stands(0, true));
        Checks.due("for 3 only the brother's lock", 0, x.stands(1, false));
        Checks.due("for a lost one", 1 + 2 + 8 + 16, x.stands(2, false));
        x.go(0);
        x.take(1);
        x.free(0);
        Checks.due("nothing is shut any more", 1 + 8 + 16, x.stands(1, false));
    }

    private static void needed() {
        GlassHill x = Checks.told("place;place;place;road 0 1 long 1;thing 1 worth 9 at 0;keeper 0 lock 1 1 takes;keeper 2 lock 1 1;"
            + "keeper 1 lock 8 8;brother 1 lock 5 5 way 0 due 0;brother 1 lock 1 1 way 0 due 0;brother 2 lock 1 3 way 0 due 0");
        Checks.due("needed", 2 + (1 << 10) + (1 << 12), x.needed());
        x.take(0);
        x.pay(0);
        Checks.due("the only one is lost", 2 + 4 + (7 << 10), x.needed());
        Checks.tale(x, "thing 15 worth 1 at 0");
        Checks.due("one fits nearly all", 1 << 12, x.needed());
        x.take(1);
        x.go(0);
        x.free(0);
        Checks.due("freed ones need none", 1 << 12, x.needed());
        Checks.due("a thing that is had counts", 0, Checks.told("place;keeper 0 lock 1 1 has 1 worth 1").needed());
    }

    private static GlassHill net() {
        return Checks.told("place;place;place;place;place;place;road 0 1 long 9 chance 99;road 1 2 long 1 chance 33;"
            + "road 2 0 long 3 chance 50;road 2 3 long 4 chance 7;road 1 3 long 9;road 4 5 long 2 chance 1");
    }

    private static void far() {
        GlassHill x = net();
        Checks.due("far(0, 1)", 4, x.far(0, 1));
        Checks.due("far(1, 0)", 4, x.far(1, 0));
        Checks.due("far(0, 3)", 7, x.far(0, 3));
        Checks.due("far(1, 3)", 5, x.far(1, 3));
        Checks.due("far(3, 3)", 0, x.far(3, 3));
        Checks.due("far(0, 4)", -1, x.far(0, 4));
        Checks.due("far(5, 4)", 2, x.far(5, 4));
        Checks.outOfBounds("far(6, 0)", () -> x.far(6, 0));
        Checks.outOfBounds("far(0, 6)", () -> x.far(0, 6));
        Checks.outOfBounds("far(-1, 0)", () -> x.far(-1, 0));
        Checks.law(x, "bar;slow 9");
        Checks.due("the law is not looked at", 4, x.far(0, 1));
        GlassHill chain = Checks.told("place;place;place;place;place;place;place;place;place;place",
            "road 8 9 long 9;road 7 8 long 9;road 6 7 long 9;road 5 6 long 9;road 4 5 long 9;road 3 4 long 9;road 2 3 long 9;"
            + "road 1 2 long 9;road 0 1 long 9");
        Checks.due("along a chain", 81, chain.far(0, 9));
        Checks.due("and back", 81, chain.far(9, 0));
    }

    private static void turnBack() {
        GlassHill x = net();
        Checks.illegalArgument("turnBack(-1)", () -> x.turnBack(-1));
        Checks.illegalArgument("turnBack(100001)", () -> x.turnBack(100001));
        Checks.due("at 0", 100000, x.turnBack(100000));
        x.go(2);
        Checks.due("now", 3, x.turnBack(6));
        Checks.due("too late", -1, x.turnBack(5));
        Checks.due("later", 7, x.turnBack(10));
        GlassHill y = Checks.told("place;place;keeper 1 lock 0 0;road 0 1 long 1");
        y.go(0);
        Checks.due("keepers are not looked at", 9, y.turnBack(10));
    }

    private static void meet() {
        GlassHill x = net();
        Checks.due("0 and 3", 4, x.meet(0, 3, false));
        Checks.due("0 and 3 where", 2, x.meet(0, 3, true));
        Checks.due("4 and 5", 2, x.meet(4, 5, false));
        Checks.due("the least place", 4, x.meet(5, 4, true));
        Checks.due("never", -1, x.meet(0, 4, false));
        Checks.due("nowhere", -1, x.meet(0, 4, true));
        Checks.due("in one place", 0, x.meet(3, 3, false));
        Checks.due("there", 3, x.meet(3, 3, true));
        Checks.outOfBounds("meet(6, 0)", () -> x.meet(6, 0, true));
        Checks.outOfBounds("meet(0, -1)", () -> x.meet(0, -1, false));
    }

    private static void surest() {
        GlassHill x = net();
        Checks.due("0 to 1", 990000, x.surest(0, 1));
        Checks.due("0 to 3", 990000, x.surest(0, 3));
        Checks.due("0 to 2", 500000, x.surest(0, 2));
        Checks.due("4 to 5", 10000, x.surest(4, 5));
        Checks.due("0 to 5", 0, x.surest(0, 5));
        Checks.due("5 to 5", 1000000, x.surest(5, 5));
        Checks.outOfBounds("surest(6, 0)", () -> x.surest(6, 0));
        Checks.outOfBounds("surest(0, 6)", () -> x.surest(0, 6));
        GlassHill y = Checks.told("place;place;place;place;place;road 0 1 long 1 chance 33;road 1 2 long 1 chance 33;"
            + "road 2 3 long 1 chance 33;road 3 4 long 1 chance 50");
        // 330000, 108900, 35937, 17968.5
        Checks.due("rounded down", 17968, y.surest(0, 4));
        // 500000, 165000, 54450, 17968.5
        Checks.due("rounded down the other way", 17968, y.surest(4, 0));
        GlassHill z = Checks.told("place;place;place;place;place;road 0 1 long 1 chance 1;road 1 2 long 1 chance 1;"
            + "road 2 3 long 1 chance 1;road 3 4 long 1 chance 99");
        Checks.due("1 times 99 by 100", 0, z.surest(0, 4));
        Checks.due("990000, 9900, 99, 0", 0, z.surest(4, 0));
        Checks.due("one millionth", 1, z.surest(0, 3));
    }

    private static void sign() {
        GlassHill x = Checks.told("place;place;place;place;road 0 1 long 1;road 1 2 long 1;brother 2 lock 0 0 way 0 due 0;"
            + "brother 0 lock 0 0 way 0 due 0");
        Checks.due("his own", 2, x.sign(0));
        Checks.due("his own", 0, x.sign(1));
        Checks.outOfBounds("sign(2)", () -> x.sign(2));
        Checks.outOfBounds("sign(-1)", () -> x.sign(-1));
        Checks.tale(x, "brother 3 lock 0 0 way 0 due 0;brother 2 lock 0 0 way 0 due 0");
        Checks.due("two in one place", -1, x.sign(0));
        Checks.due("two in one place", -1, x.sign(3));
        Checks.due("one that no road leads to", 3, x.sign(2));
        Checks.due("alone", 1, Checks.told("place;place;brother 1 lock 0 0 way 0 due 0").sign(0));
    }
}
