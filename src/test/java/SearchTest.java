/** Promises 20 to 23: all that she can come to within thirty hours. */
public final class SearchTest {
    public static void main(String[] args) {
        waitingAlone();
        nowAlone();
        thirtyHours();
        keysAndLoss();
        laidForWantOfRoom();
        noLay();
        lawAndMeals();
        tooMany();
        atTheLimit();
        followsEveryChange();
        Checks.finish("SearchTest");
    }

    private static void waitingAlone() {
        GlassHill x = Checks.told("place");
        Checks.due("now and 30 hours", 31, x.locked(true));
        Checks.due("no keeper", 0, x.locked(false));
        Checks.due("of none", 0, x.soonest(0));
        Checks.due("sets of none", 0, x.soonest(-1));
        Checks.due("reached", 0, x.reached(0));
        Checks.outOfBounds("reached(1)", () -> x.reached(1));
        Checks.outOfBounds("reached(-1)", () -> x.reached(-1));
        Checks.tale(x, "thing 0 worth 1 at 0");
        Checks.due("a thing taken or not", 62, x.locked(true));
        x.take(0);
        Checks.due("carried already", 31, x.locked(true));
    }

    /** He eats from the hour that comes on, so there is only the state now. */
    private static void nowAlone() {
        GlassHill x = Checks.told("place;keeper 0 lock 1 1 eats 1 to 23;thing 1 worth 1 at 0");
        x.take(0);
        x.pay(0);
        Checks.due("states", 1, x.locked(true));
        Checks.due("he let her pass", 0, x.locked(false));
        Checks.due("soonest", 0, x.soonest(0));
        Checks.due("spared", 0, x.spared(0));
        Checks.due("reached", 0, x.reached(0));
    }

    private static void thirtyHours() {
        GlassHill x = Checks.told("place;place;place;road 0 1 long 9;road 1 2 long 9;thing 0 worth 1 at 0;brother 2 lock 0 0 way 0 due 0");
        Checks.law(x, "slow 6");
        Checks.due("30 hours are within", 30, x.reached(2));
        Checks.due("soonest", 30, x.soonest(1));
        Checks.law(x, "slow 6;slow 1 if road > 0");
        Checks.due("31 are not", -1, x.reached(2));
        Checks.due("soonest", -1, x.soonest(1));
        Checks.due("spared", -1, x.spared(1));
        Checks.due("of none", 0, x.spared(2));
        Checks.due("all bits that count", -1, x.soonest(-1));
    }

    private static void keysAndLoss() {
        GlassHill x = Checks.told("place;place;place;road 0 1 long 1;road 1 2 long 1;thing 1 worth 50 at 0;thing 3 worth 20 at 0;"
            + "keeper 1 lock 1 1 takes;keeper 2 lock 8 8;brother 2 lock 2 2 way 0 due 0;brother 1 lock 0 0 way 0 due 0");
        Checks.due("the one with both shapes is his key", 50, x.spared(1));
        Checks.due("the other one stays outside", 0, x.spared(2));
        Checks.due("both", 50, x.spared(3));
        Checks.due("hours", 2, x.soonest(1));
        Checks.due("hours", 1, x.soonest(2));
        Checks.due("hours", 2, x.soonest(3));
        Checks.due("none passes 2", 4, x.locked(false));
        Checks.due("reached 2", 2, x.reached(2));
        x.take(0);
        x.take(1);
        x.go(0);
        x.pay(1);
        Checks.due("his key is lost", -1, x.spared(1));
        Checks.due("what was lost ahead of now does not count", 0, x.spared(2));
        Checks.due("1 passed already", 4, x.locked(false));
        x.free(1);
        Checks.due("he is freed", 0, x.soonest(2));
    }

    /** Four carried, a keeper who takes nothing: what he has is laid down, and not taken without room. */
    private static void laidForWantOfRoom() {
        GlassHill x = Checks.told("place;place;road 0 1 long 1;thing 0 worth 1 at 0;thing 0 worth 1 at 0;thing 0 worth 1 at 0;"
            + "thing 0 worth 1 at 0;keeper 0 lock 0 0 has 8 worth 1;brother 1 lock 8 8 way 0 due 0;keeper 1 lock 0 0 takes");
        for (int t = 0; t < 4; t++) {
            x.take(t);
        }
        Checks.due("give one at 1, come back for it", 3, x.soonest(1));
        Checks.due("lost by it", 1, x.spared(1));
        Checks.due("all pass", 0, x.locked(false));
        x.pay(0);
        Checks.due("lies there", 16, x.place(0, 8));
        Checks.due("still", 3, x.soonest(1));
        x.lay(0);
        x.take(4);
        Checks.due("with it", 1, x.soonest(1));
    }

    /** She never lays anything down in the search. */
    private static void noLay() {
        GlassHill x = Checks.told("place;thing 0 worth 1 at 0;thing 0 worth 1 at 0;thing 0 worth 1 at 0;thing 0 worth 1 at 0;"
            + "thing 1 worth 1 at 0;brother 0 lock 1 1 way 0 due 0");
        Checks.due("with hands free", 0, x.soonest(1));
        for (int t = 0; t < 4; t++) {
            x.take(t);
        }
        Checks.due("hands full", -1, x.soonest(1));
        x.lay(3);
        Checks.due("one laid", 0, x.soonest(1));
    }

    private static void lawAndMeals() {
        GlassHill x = Checks.told("place;place;road 0 1 long 2;keeper 1 lock 0 0 eats 1 to 20");
        Checks.due("comes at 21", 21, x.reached(1));
        Checks.law(x, "bar if night");
        Checks.due("sets out at 19", 21, x.reached(1));
        Checks.law(x, "bar if hour > 18");
        Checks.due("sets out at 0 of the next day, when he eats at 2", -1, x.reached(1));
        Checks.law(x, "slow 2 if hour > 16;bar if day > 0");
        Checks.due("sets out at 17", 21, x.reached(1));
        Checks.due("locked", 2, x.locked(false));
    }

    private static final String MANY = "place;place;place;place;road 0 1 long 1;road 0 2 long 1;road 1 2 long 1;road 2 3 long 1;road 1 3 long 1;";

    private static void tooMany() {
        GlassHill x = Checks.told(MANY + "thing 1 worth 1 at 0;thing 2 worth 1 at 1;thing 3 worth 1 at 2;thing 4 worth 1 at 3",
            "thing 5 worth 1 at 0;thing 6 worth 1 at 1;brother 3 lock 0 0 way 0 due 0");
        Checks.due("soonest", -3, x.soonest(1));
        Checks.due("soonest of none", -3, x.soonest(0));
        Checks.due("reached", -3, x.reached(0));
        Checks.due("spared", -3, x.spared(1));
        Checks.due("locked", -3, x.locked(false));
        Checks.due("states", -3, x.locked(true));
        Checks.outOfBounds("reached(4)", () -> x.reached(4));
        Checks.law(x, "bar");
        Checks.due("barred: at 0 two things", 31 * 4, x.locked(true));
        Checks.due("reached", 0, x.reached(0));
        Checks.due("reached", -1, x.reached(1));
    }

    /**
     * At place 0 she has taken nothing, or some of two things, and then freed any of six brothers: 1 + 3 * 64
     * states in each of 31 hours, 5983. Only at once and with nothing can she leave for place 1, and waits
     * there till the 30th hour: from the 14th on that is 17 states more.
     */
    private static void atTheLimit() {
        GlassHill x = Checks.told("place;place;road 0 1 long 9;thing 0 worth 1 at 0;thing 0 worth 1 at 0",
            "brother 0 lock 0 0 way 0 due 0;brother 0 lock 0 0 way 0 due 0;brother 0 lock 0 0 way 0 due 0;"
            + "brother 0 lock 0 0 way 0 due 0;brother 0 lock 0 0 way 0 due 0;brother 0 lock 0 0 way 0 due 0");
        Checks.law(x, "bar");
        Checks.due("all barred", 5983, x.locked(true));
        Checks.law(x, "bar if from > 0 or hour + day > 0 or carried > 0;slow 5");
        Checks.due("just 6000", 6000, x.locked(true));
        Checks.due("reached", 14, x.reached(1));
        Checks.law(x, "bar if from > 0 or hour + day > 0 or carried > 0;slow 4");
        Checks.due("just 6001", -3, x.locked(true));
        Checks.due("just 6001", -3, x.reached(1));
    }

    private static void followsEveryChange() {
        GlassHill x = Checks.told("place;place;road 0 1 long 3;thing 1 worth 5 at 0;brother 1 lock 1 1 way 0 due 0");
        Checks.due("soonest", 3, x.soonest(1));
        x.image();
        x.delay(1);
        Checks.due("as ever", 3, x.soonest(1));
        x.take(0);
        x.go(0);
        Checks.due("there", 0, x.soonest(1));
        Checks.due("reached 0", 3, x.reached(0));
        x.lay(0);
        x.go(0);
        Checks.due("left behind", 3, x.soonest(1));
        x.undo();
        x.undo();
        x.undo();
        Checks.due("undone", 3, x.reached(1));
        Checks.due("undone", 3, x.soonest(1));
        Checks.law(x, "bar");
        Checks.due("barred", -1, x.soonest(1));
        x.back();
        Checks.due("gone back", 3, x.soonest(1));
        Checks.tale(x, "road 1 0 long 1");
        Checks.due("a shorter road", 1, x.soonest(1));
        Checks.due("states are as many", x.locked(true), x.locked(true));
    }
}
