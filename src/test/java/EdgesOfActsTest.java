/**
 * The steps of THE GIRL, the log, acts undone and the image (promises 14 to 19 and 35 to 38), sentence by
 * sentence: the last that is still allowed, and the first that no longer is.
 */
public final class EdgesOfActsTest {
    public static void main(String[] args) {
        firstOfAll();
        fromThePlaceWhereSheIs();
        notBarred();
        letHerPassOrCame();
        eatsWhenSheComes();
        eatsWhenSheComesByNight();
        waitsAnHour();
        waitsSoManyHours();
        waitsTillItIsRefused();
        onlyGoAndWaitTakeTime();
        paysWhatFits();
        valueBeyondItsMask();
        whatHeHas();
        hasRoomForFour();
        lays();
        frees();
        lockOfTheSameNumber();
        tenInTheLog();
        thrownFirst();
        refusedChangesNothing();
        twelveAreRemembered();
        eachActIsOne();
        allIsAsAheadOfIt();
        aTextForgets();
        goingBackForgets();
        undoneButForTheTape();
        oneImage();
        imageOfAll();
        imageOfWhatIsDoneOtherwise();
        backButForTheTape();
        Checks.finish("EdgesOfActsTest");
    }

    // "at PLACE 0, TIME 0 ..., carries ...; CAME by a ROAD, or none (at first)"
    private static void firstOfAll() {
        GlassHill x = Checks.told("place;place;thing 0 worth 5 at 0");
        int[] girl = {0, 0, -1, 0, 0};
        for (int what = 0; what < 5; what++) {
            Checks.due("girl(" + what + ") at first", girl[what], x.girl(what));
        }
        GlassHill y = Checks.told("");
        Checks.illegalState("a text without a place", () -> y.girl(0));
    }

    // "GO by a ROAD from the PLACE where she is"; "both ways"
    private static void fromThePlaceWhereSheIs() {
        GlassHill x = Checks.told("place;place;place;road 0 1 long 1;road 2 1 long 9");
        Checks.illegalState("the other end is not hers either", () -> x.go(1));
        Checks.due("from the first of the two", 1, x.go(0));
        Checks.due("from the second of the two", 10, x.go(1));
        Checks.due("at", 2, x.girl(0));
        Checks.due("came", 1, x.girl(2));
        Checks.illegalState("from 2", () -> x.go(0));
        Checks.due("and back", 19, x.go(1));
        Checks.due("at", 1, x.girl(0));
        Checks.outOfBounds("go(2)", () -> x.go(2));
        Checks.outOfBounds("go(-1)", () -> x.go(-1));
        Checks.outOfBounds("go(16)", () -> x.go(16));
    }

    // "not BARRED"; "BARRED: some bar LINE holds"
    private static void notBarred() {
        GlassHill x = Checks.told("place;place;road 0 1 long 1;road 0 1 long 1");
        Checks.law(x, "bar if hour < 3;slow 2;bar if road > 0");
        Checks.illegalState("barred by the first line", () -> x.go(0));
        x.delay(2);
        Checks.illegalState("still", () -> x.go(0));
        x.delay(1);
        Checks.illegalState("barred by the last line", () -> x.go(1));
        Checks.due("not barred", 6, x.go(0));
        Checks.law(x, "bar if to < 1");
        Checks.illegalState("barred, though she came by it", () -> x.go(0));
        Checks.law(x, "");
        Checks.due("a law without a line", 7, x.go(0));
    }

    // "if there is a KEEPER, who must have let her PASS, or it is the ROAD by which she CAME"
    private static void letHerPassOrCame() {
        GlassHill x = Checks.told("place;place;place;road 0 1 long 1;road 0 1 long 1;road 1 2 long 1;keeper 1 lock 0 0;thing 0 worth 1 at 1");
        x.go(1);
        Checks.illegalState("on", () -> x.go(2));
        Checks.illegalState("back by another one", () -> x.go(0));
        Checks.due("back by the one by which she came", 2, x.go(1));
        Checks.due("no keeper at 0: by any", 3, x.go(0));
        Checks.illegalState("now it is this one", () -> x.go(1));
        x.delay(1);
        Checks.illegalState("waiting does not help", () -> x.go(1));
        x.take(0);
        Checks.illegalState("nor carrying what fits", () -> x.go(2));
        x.pay(0);
        Checks.due("he let her pass", 5, x.go(2));
        Checks.due("back to him", 6, x.go(2));
        Checks.due("for good", 7, x.go(1));
        GlassHill y = Checks.told("place;place;road 0 1 long 1;keeper 0 lock 0 0");
        Checks.illegalState("she came to 0 by none", () -> y.go(0));
    }

    /** Comes along a ROAD of one hour at such a TIME to a KEEPER who EATS so: whether she may. */
    private static void comes(String eats, int time, boolean may) {
        GlassHill x = Checks.told("place;place;road 0 1 long 1;keeper 1 lock 0 0 eats " + eats);
        for (int now = x.girl(1); now < time - 1; now = x.girl(1)) {
            x.delay(Math.min(48, time - 1 - now));
        }
        Checks.due("rule: comes at " + time + ", eats " + eats, may, x.rule(0, 2) == 1);
        if (may) {
            Checks.due("comes at " + time + ", eats " + eats, time, x.go(0));
        } else {
            Checks.illegalState("comes at " + time + ", eats " + eats, () -> x.go(0));
        }
    }

    // "EATS from one HOUR to another one"; "the KEEPER at the other end (if any) does not EAT in the HOUR in
    // which she comes there"
    private static void eatsWhenSheComes() {
        comes("5 to 7", 4, true);
        comes("5 to 7", 5, false);
        comes("5 to 7", 6, false);
        comes("5 to 7", 7, false);
        comes("5 to 7", 8, true);
        comes("5 to 5", 4, true);
        comes("5 to 5", 5, false);
        comes("5 to 5", 6, true);
        comes("5 to 7", 28, true);
        comes("5 to 7", 29, false);
        comes("5 to 7", 31, false);
        comes("5 to 7", 32, true);
        GlassHill x = Checks.told("place;place;place;road 0 1 long 9;road 1 2 long 1;keeper 1 lock 0 0 eats 9 to 9;"
            + "keeper 0 lock 0 0 eats 0 to 8;thing 0 worth 1 at 0");
        x.take(0);
        x.pay(0);
        Checks.illegalState("by the hours it takes", () -> x.go(0));
        Checks.law(x, "slow 1");
        Checks.due("one hour more, and it does not matter who eats where she sets out, or on the way", 10, x.go(0));
        x.pay(0);
        Checks.due("on", 12, x.go(1));
        x.delay(19);
        Checks.illegalState("he eats, though he let her pass", () -> x.go(1));
        x.delay(1);
        Checks.due("no more", 34, x.go(1));
        Checks.law(x, "slow 5");
        x.go(1);
        x.delay(11);
        Checks.illegalState("he eats at 57, also by the road by which she came", () -> x.go(1));
        x.delay(1);
        Checks.due("no more", 58, x.go(1));
    }

    // "HOUR: TIME modulo 24"; "(0 to 23, ...)"
    private static void eatsWhenSheComesByNight() {
        comes("23 to 23", 22, true);
        comes("23 to 23", 23, false);
        comes("23 to 23", 24, true);
        comes("0 to 0", 23, true);
        comes("0 to 0", 24, false);
        comes("0 to 0", 25, true);
        comes("0 to 23", 1, false);
        comes("0 to 23", 24, false);
        comes("0 to 22", 23, true);
        comes("1 to 23", 24, true);
        comes("1 to 23", 1, false);
        comes("0 to 0", 240, false);
        comes("23 to 23", 239, false);
        comes("23 to 23", 240, true);
    }

    // "WAIT an hour: refused, if the KEEPER where she is EATS in the HOUR that comes"
    private static void waitsAnHour() {
        GlassHill x = Checks.told("place;place;keeper 0 lock 0 0 eats 2 to 3;keeper 1 lock 0 0 eats 0 to 23;thing 0 worth 1 at 0;road 0 1 long 1");
        Checks.due("to 1", 1, x.delay(1));
        Checks.illegalState("to 2", () -> x.delay(1));
        x.take(0);
        x.pay(0);
        Checks.illegalState("to 2, though he let her pass", () -> x.delay(1));
        GlassHill y = Checks.told("place;keeper 0 lock 0 0 eats 0 to 2");
        Checks.illegalState("from within his meal into it", () -> y.delay(1));
        GlassHill z = Checks.told("place;keeper 0 lock 0 0 eats 0 to 0");
        Checks.due("from his meal's last hour on", 1, z.delay(1));
        Checks.due("to 23", 22, z.delay(22));
        Checks.illegalState("to the next day's", () -> z.delay(1));
        GlassHill v = Checks.told("place;keeper 0 lock 0 0 eats 23 to 23");
        Checks.due("to 22", 22, v.delay(48));
        Checks.illegalState("to 23", () -> v.delay(1));
        GlassHill w = Checks.told("place;place;keeper 1 lock 0 0 eats 0 to 23");
        Checks.due("he is elsewhere", 48, w.delay(48));
        GlassHill n = Checks.told("place;keeper 0 lock 0 0");
        Checks.due("he never eats", 48, n.delay(48));
    }

    // delay: "WAIT so many hours (1 to 48) ... IllegalArgumentException: they are none; IllegalStateException:
    // there is no PLACE, or not even one"
    private static void waitsSoManyHours() {
        GlassHill x = Checks.told("place");
        Checks.due("1", 1, x.delay(1));
        Checks.due("48", 48, x.delay(48));
        Checks.due("time", 49, x.girl(1));
        for (int n : new int[] {0, 49, -1, Integer.MIN_VALUE, Integer.MAX_VALUE}) {
            Checks.illegalArgument("delay(" + n + ")", () -> x.delay(n));
        }
        Checks.due("time", 49, x.girl(1));
        GlassHill none = new GlassHill();
        Checks.illegalState("no place: delay(1)", () -> none.delay(1));
        Checks.illegalState("no place: delay(48)", () -> none.delay(48));
        Checks.illegalArgument("no place: delay(0)", () -> none.delay(0));
        Checks.illegalArgument("no place: delay(49)", () -> none.delay(49));
        GlassHill eats = Checks.told("place;keeper 0 lock 0 0 eats 1 to 1");
        Checks.illegalState("not even one", () -> eats.delay(48));
        Checks.illegalArgument("none, told first", () -> eats.delay(49));
    }

    // delay: "till it is refused: how many she waited"
    private static void waitsTillItIsRefused() {
        int[] asked = {1, 2, 3, 4, 48};
        int[] waited = {1, 2, 3, 3, 3};
        for (int i = 0; i < asked.length; i++) {
            GlassHill x = Checks.told("place;keeper 0 lock 0 0 eats 4 to 5");
            Checks.due("delay(" + asked[i] + ")", waited[i], x.delay(asked[i]));
            Checks.due("time", waited[i], x.girl(1));
        }
    }

    // "All of these are ACTS; only GO and WAIT take time"
    private static void onlyGoAndWaitTakeTime() {
        GlassHill x = Checks.told("place;place;road 0 1 long 3;thing 0 worth 1 at 0;thing 0 worth 1 at 0;keeper 0 lock 0 0 has 0 worth 1;"
            + "brother 0 lock 0 0 way 9 due 0");
        x.take(0);
        x.take(1);
        x.pay(0);
        x.lay(1);
        x.free(0);
        Checks.due("time", 0, x.girl(1));
        x.go(0);
        Checks.due("go", 3, x.girl(1));
        x.delay(2);
        Checks.due("wait", 5, x.count(7));
        Checks.due("home by the time at which he was freed", 9, x.brother(0, 6));
    }

    // "PAY: a THING that she carries and that FITS the LOCK of the KEEPER where she is, who has not let her PASS yet"
    private static void paysWhatFits() {
        GlassHill x = Checks.told("place;place;road 0 1 long 1;thing 5 worth 1 at 0;thing 4 worth 1 at 0;thing 5 worth 1 at 1;keeper 0 lock 5 5");
        Checks.illegalState("it lies there", () -> x.pay(0));
        x.take(1);
        Checks.illegalState("it does not fit", () -> x.pay(1));
        x.take(0);
        Checks.outOfBounds("pay(3)", () -> x.pay(3));
        Checks.outOfBounds("pay(-1)", () -> x.pay(-1));
        Checks.due("it fits", -1, x.pay(0));
        Checks.illegalState("he let her pass already", () -> x.pay(0));
        x.go(0);
        Checks.illegalState("no keeper there", () -> x.pay(0));
    }

    // "a THING FITS, if the bits of the MASK in its SHAPE are just VALUE (a VALUE beyond its MASK: nothing does)"
    private static void valueBeyondItsMask() {
        for (int mask = 0; mask < 16; mask++) {
            for (int shape = 0; shape < 16; shape += 5) {
                GlassHill x = Checks.told("place;place;thing " + shape + " worth 1 at 0;keeper 0 lock " + mask + " "
                    + (shape & mask) + ";keeper 1 lock " + mask + " " + (shape & mask ^ 8) + ";brother 0 lock " + mask
                    + " " + (shape & mask ^ 1) + " way 0 due 0;brother 0 lock " + mask + " " + (shape & mask) + " way 0 due 0");
                x.take(0);
                Checks.due("just the value", true, x.fits(0, 0));
                Checks.due("another value, or one beyond the mask", false, x.fits(0, 1));
                Checks.illegalState("another value, or one beyond the mask", () -> x.free(0));
                Checks.due("just the value", 1, x.free(1));
                Checks.due("just the value", -1, x.pay(0));
            }
        }
    }

    // "if he TAKES, it is LOST; what he HAS is carried, or, if she has no ROOM, lies there"
    private static void whatHeHas() {
        for (int carried = 1; carried <= 4; carried++) {
            for (int takes = 0; takes < 2; takes++) {
                GlassHill x = Checks.told("place;keeper 0 lock 0 0" + (takes == 1 ? " takes" : "") + " has 7 worth 9;"
                    + Checks.times("thing 0 worth 1 at 0", 4));
                for (int t = 1; t <= carried; t++) {
                    x.take(t);
                }
                boolean room = carried - takes < 4;
                Checks.due("what he had", 0, x.pay(1));
                Checks.due("carried or lies", room ? 2 : 0, x.thing(0, 2));
                Checks.due("there", room ? -1 : 0, x.thing(0, 3));
                Checks.due("had no more", -1, x.place(0, 6));
                Checks.due("lost", takes == 1 ? 3 : 2, x.thing(1, 2));
                Checks.due("lost", takes == 1 ? 2 : 0, x.count(10));
                Checks.due("how many she carries", carried - takes + (room ? 1 : 0), Integer.bitCount(x.girl(3)));
                int leftLying = 30 & ~((2 << carried) - 2);
                Checks.due("what lies there", leftLying | (room ? 0 : 1), x.place(0, 8));
            }
        }
        GlassHill x = Checks.told("place;keeper 0 lock 0 0;thing 0 worth 1 at 0");
        x.take(0);
        Checks.due("he had none", -1, x.pay(0));
    }

    // "carries at most 4 THINGS"; "TAKE: a THING that lies where she is, if she has ROOM"
    private static void hasRoomForFour() {
        GlassHill x = Checks.told("place;place;road 0 1 long 1;" + Checks.times("thing 0 worth 1 at 0", 6)
            + ";thing 0 worth 1 at 1;keeper 0 lock 0 0 takes has 1 worth 1");
        for (int t = 0; t < 4; t++) {
            Checks.due("take(" + t + ")", t + 1, x.take(t));
        }
        Checks.illegalState("a fifth", () -> x.take(4));
        x.lay(0);
        Checks.due("once more the fourth", 4, x.take(4));
        Checks.illegalState("a fifth again", () -> x.take(0));
        x.lay(1);
        Checks.illegalState("carried already", () -> x.take(2));
        Checks.illegalState("lies elsewhere", () -> x.take(6));
        Checks.illegalState("he has it", () -> x.take(7));
        x.pay(2);
        Checks.illegalState("lost", () -> x.take(2));
        Checks.outOfBounds("take(8)", () -> x.take(8));
        Checks.outOfBounds("take(-1)", () -> x.take(-1));
        Checks.outOfBounds("take(10)", () -> x.take(10));
    }

    // "LAY: a THING that she carries lies where she is"; lay: "IllegalStateException: she does not carry it"
    private static void lays() {
        GlassHill x = Checks.told("place;place;road 0 1 long 1;thing 0 worth 1 at 0;thing 0 worth 1 at 0;keeper 0 lock 0 0 takes has 1 worth 1");
        Checks.illegalState("lies", () -> x.lay(0));
        Checks.illegalState("he has it", () -> x.lay(2));
        x.take(0);
        x.take(1);
        x.pay(0);
        Checks.illegalState("lost", () -> x.lay(0));
        Checks.due("one left", 1, x.lay(1));
        Checks.illegalState("laid already", () -> x.lay(1));
        x.go(0);
        Checks.due("none left", 0, x.lay(2));
        Checks.due("where she is", 1, x.thing(2, 3));
        Checks.due("where she was", 0, x.thing(1, 3));
        Checks.due("his no more", 0, x.thing(2, 2));
        Checks.outOfBounds("lay(3)", () -> x.lay(3));
        Checks.outOfBounds("lay(-1)", () -> x.lay(-1));
    }

    // "FREE: a BROTHER where she is, not FREED yet, if some THING that she carries FITS his LOCK (it stays hers)"
    private static void frees() {
        GlassHill x = Checks.told("place;place;road 0 1 long 1;thing 1 worth 1 at 0;thing 2 worth 1 at 0;keeper 1 lock 15 15;"
            + "brother 0 lock 2 2 way 0 due 0;brother 1 lock 3 2 way 0 due 0;brother 1 lock 4 4 way 0 due 0");
        Checks.illegalState("what fits lies there", () -> x.free(0));
        x.take(0);
        Checks.illegalState("what she carries does not fit", () -> x.free(0));
        x.take(1);
        Checks.illegalState("elsewhere", () -> x.free(1));
        Checks.due("the second one fits", 1, x.free(0));
        Checks.illegalState("freed already", () -> x.free(0));
        x.go(0);
        Checks.due("the keeper there is not asked", 2, x.free(1));
        Checks.illegalState("nothing fits", () -> x.free(2));
        Checks.due("it stays hers", 3, x.girl(3));
        Checks.outOfBounds("free(3)", () -> x.free(3));
        Checks.outOfBounds("free(-1)", () -> x.free(-1));
        Checks.outOfBounds("free(7)", () -> x.free(7));
    }

    /** A KEEPER of PLACE 0 and a BROTHER 0 have LOCKS of their own, and so have those of the highest numbers. */
    private static void lockOfTheSameNumber() {
        GlassHill x = Checks.told("place;keeper 0 lock 1 1;brother 0 lock 2 2 way 0 due 0;thing 1 worth 1 at 0;thing 2 worth 1 at 0;"
            + Checks.times("brother 0 lock 4 0 way 0 due 0", 5) + ";brother 0 lock 15 2 way 3 due 4", Checks.times("place", 9)
            + ";keeper 9 lock 15 2");
        int[] last = {0, 15, 2, 3, 4, -1, -1};
        for (int what = 0; what < 7; what++) {
            Checks.due("brother(6, " + what + ")", last[what], x.brother(6, what));
        }
        Checks.due("mask of brother 0", 2, x.brother(0, 1));
        Checks.due("value of brother 0", 2, x.brother(0, 2));
        Checks.due("mask of place 0", 1, x.place(0, 1));
        Checks.due("mask of place 9", 15, x.place(9, 1));
        Checks.due("fits at 9", true, x.fits(1, 9));
        Checks.due("does not", false, x.fits(0, 9));
        x.take(1);
        Checks.illegalState("the keeper's", () -> x.pay(1));
        Checks.due("the last brother's", 1, x.free(6));
        Checks.due("the first brother's", 2, x.free(0));
        x.lay(1);
        x.take(0);
        Checks.due("the keeper's", -1, x.pay(0));
    }

    // "THE LOG: of all that let her PASS (at most 10): the PLACE, the THING shown, the TIME"; log: "NONE without"
    private static void tenInTheLog() {
        GlassHill x = Checks.told(Checks.times("place", 10), "thing 0 worth 1 at 0;road 0 1 long 1;road 1 2 long 1;road 2 3 long 1;"
            + "road 3 4 long 1;road 4 5 long 1;road 5 6 long 1;road 6 7 long 1;road 7 8 long 1;road 8 9 long 1");
        Checks.tale(x, "keeper 0 lock 0 0;keeper 1 lock 0 0;keeper 2 lock 0 0;keeper 3 lock 0 0;keeper 4 lock 0 0;"
            + "keeper 5 lock 0 0;keeper 6 lock 0 0;keeper 7 lock 0 0;keeper 8 lock 0 0;keeper 9 lock 0 0");
        x.take(0);
        for (int p = 0; p < 10; p++) {
            Checks.due("not yet", -1, x.log(p, 0));
            x.pay(0);
            if (p < 9) {
                x.go(p);
            }
        }
        for (int k = 0; k < 10; k++) {
            Checks.due("place of " + k, k, x.log(k, 0));
            Checks.due("thing of " + k, 0, x.log(k, 1));
            Checks.due("time of " + k, k, x.log(k, 2));
        }
        for (int k : new int[] {10, -1, 11, Integer.MAX_VALUE, Integer.MIN_VALUE}) {
            for (int what = 0; what < 3; what++) {
                Checks.due("log(" + k + ", " + what + ")", -1, x.log(k, what));
            }
            Checks.noSuchElement("log(" + k + ", 3)", () -> x.log(k, 3));
        }
        Checks.noSuchElement("log(9, 3)", () -> x.log(9, 3));
        Checks.noSuchElement("log(9, -1)", () -> x.log(9, -1));
        Checks.due("all let her pass", 1023, x.count(8));
        Checks.due("and none is locked", 0, x.locked(false));
    }

    // "Of several exceptions the one told first is thrown"
    private static void thrownFirst() {
        GlassHill x = Checks.told("place;place;thing 0 worth 1 at 1;road 0 1 long 1;brother 1 lock 1 1 way 0 due 0");
        x.go(0);
        Checks.outOfBounds("go", () -> x.go(1));
        Checks.outOfBounds("pay", () -> x.pay(1));
        Checks.outOfBounds("take", () -> x.take(1));
        Checks.outOfBounds("lay", () -> x.lay(1));
        Checks.outOfBounds("free", () -> x.free(1));
        Checks.illegalState("pay", () -> x.pay(0));
        Checks.illegalState("lay", () -> x.lay(0));
        Checks.illegalState("free", () -> x.free(0));
        GlassHill none = new GlassHill();
        Checks.illegalArgument("delay", () -> none.delay(49));
    }

    // "a call that throws changes nothing"
    private static void refusedChangesNothing() {
        GlassHill x = Checks.told("place;place;place;road 0 1 long 1;road 1 2 long 1;thing 1 worth 1 at 0;thing 2 worth 1 at 1;"
            + "keeper 1 lock 8 8 eats 2 to 4 takes has 3 worth 3;brother 1 lock 4 4 way 0 due 0");
        x.take(0);
        x.go(0);
        String ahead = Checks.all(x);
        Checks.illegalState("go", () -> x.go(1));
        Checks.outOfBounds("go", () -> x.go(2));
        Checks.illegalState("delay", () -> x.delay(1));
        Checks.illegalArgument("delay", () -> x.delay(0));
        Checks.illegalState("pay", () -> x.pay(0));
        Checks.illegalState("pay", () -> x.pay(1));
        Checks.outOfBounds("pay", () -> x.pay(3));
        Checks.illegalState("take", () -> x.take(2));
        Checks.outOfBounds("take", () -> x.take(3));
        Checks.illegalState("lay", () -> x.lay(1));
        Checks.outOfBounds("lay", () -> x.lay(3));
        Checks.illegalState("free", () -> x.free(0));
        Checks.outOfBounds("free", () -> x.free(1));
        Checks.same("behind all that was refused", ahead, x);
        Checks.due("the acts ahead are still remembered", 2, x.count(12));
        x.undo();
        Checks.due("the latest act was the one that was not refused", 0, x.girl(0));
    }

    // "(12 are remembered)"; count 12: "acts that can be UNDONE"; undo: "whether there was one"
    private static void twelveAreRemembered() {
        for (int acts = 0; acts <= 14; acts++) {
            GlassHill x = Checks.told("place");
            for (int i = 0; i < acts; i++) {
                x.delay(i + 1);
            }
            int due = Math.min(acts, 12);
            Checks.due("acts", due, x.count(12));
            for (int i = 1; i <= due; i++) {
                Checks.due("undo " + i + " of " + acts, true, x.undo());
                Checks.due("left", due - i, x.count(12));
                Checks.due("time", (acts - i) * (acts - i + 1) / 2, x.girl(1));
            }
            Checks.due("no more", false, x.undo());
            Checks.due("nothing happens", (acts - due) * (acts - due + 1) / 2, x.girl(1));
            x.delay(1);
            Checks.due("one anew", 1, x.count(12));
            Checks.due("undone", true, x.undo());
            Checks.due("no more", false, x.undo());
        }
        GlassHill none = new GlassHill();
        Checks.due("no place, no act", false, none.undo());
    }

    // "All of these are ACTS"
    private static void eachActIsOne() {
        GlassHill x = Checks.told("place;place;road 0 1 long 1;thing 0 worth 1 at 0;keeper 0 lock 0 0 has 0 worth 1;brother 1 lock 0 0 way 0 due 0");
        x.take(0);
        Checks.due("take", 1, x.count(12));
        x.pay(0);
        Checks.due("pay", 2, x.count(12));
        x.lay(1);
        Checks.due("lay", 3, x.count(12));
        x.go(0);
        Checks.due("go", 4, x.count(12));
        x.free(0);
        Checks.due("free", 5, x.count(12));
        x.delay(7);
        Checks.due("delay", 6, x.count(12));
        x.undo();
        Checks.due("undone", 5, x.count(12));
        Checks.due("all the hours that she waited", 1, x.girl(1));
    }

    // "all is as ahead of it"
    private static void allIsAsAheadOfIt() {
        GlassHill x = Checks.told("place;keeper 0 lock 0 0 takes has 5 worth 7;thing 1 worth 3 at 0;brother 0 lock 0 0 way 4 due 2");
        String[] ahead = new String[6];
        ahead[0] = Checks.all(x);
        x.take(1);
        ahead[1] = Checks.all(x);
        x.delay(3);
        ahead[2] = Checks.all(x);
        x.pay(1);
        ahead[3] = Checks.all(x);
        x.free(0);
        ahead[4] = Checks.all(x);
        x.lay(0);
        for (int i = 4; i >= 0; i--) {
            x.undo();
            Checks.same("undone to " + i, ahead[i], x);
        }
        // Undone and done anew: nothing of what was undone is left.
        x.delay(5);
        x.take(1);
        x.pay(1);
        Checks.due("log", 5, x.log(0, 2));
        Checks.due("log", -1, x.log(1, 0));
        x.free(0);
        Checks.due("freed at", 5, x.brother(0, 5));
    }

    // "A text, going back: none are remembered"; "a call that throws changes nothing"
    private static void aTextForgets() {
        GlassHill x = Checks.told("place");
        x.delay(1);
        Checks.wrongTale(x, "oh", 0);
        x.end(0);
        Checks.wrongLaw(x, "oh", 0);
        Checks.due("a wrong text", 1, x.count(12));
        Checks.rightTale(x, "");
        Checks.due("a tale, though empty", 0, x.count(12));
        Checks.due("none", false, x.undo());
        Checks.due("time", 1, x.girl(1));
        x.delay(1);
        Checks.rightLaw(x, "", 0);
        Checks.due("a law, though empty", 0, x.count(12));
        Checks.due("none", false, x.undo());
        Checks.due("time", 2, x.girl(1));
        for (int text = 2; text < 12; text++) {
            Checks.tale(x, "");
        }
        x.delay(1);
        Checks.tape(x, "place");
        Checks.unsupported("a 13th text", x::tale);
        Checks.due("a refused text", 1, x.count(12));
        Checks.tape(x, 1, 1);
        x.locks(true);
        Checks.tape(x, 1, 1);
        x.plates(-1);
        Checks.due("these are no texts", 1, x.count(12));
        Checks.due("undone", true, x.undo());
        Checks.due("time", 2, x.girl(1));
    }

    private static void goingBackForgets() {
        GlassHill x = Checks.told("place");
        x.delay(1);
        Checks.due("no image", false, x.back());
        Checks.due("nothing happens", 1, x.count(12));
        x.image();
        Checks.due("keeping one forgets nothing", 1, x.count(12));
        x.delay(1);
        Checks.due("back", true, x.back());
        Checks.due("acts", 0, x.count(12));
        Checks.due("undo", false, x.undo());
        Checks.due("time", 1, x.girl(1));
        Checks.due("back once more", true, x.back());
        Checks.due("acts", 0, x.count(12));
    }

    // "(but for the TAPE, fault(), THE IMAGE)"
    private static void undoneButForTheTape() {
        GlassHill x = Checks.told("place");
        x.delay(1);
        x.image();
        x.delay(1);
        Checks.tape(x, "place;oh");
        Checks.illegalArgument("wrong", x::tale);
        x.feed(0, 0, 0, 0, 0);
        x.undo();
        Checks.due("the tape", true, x.end(20));
        Checks.due("fault", 6, x.fault());
        x.undo();
        Checks.due("time", 0, x.girl(1));
        Checks.due("the image is still there", true, x.back());
        Checks.due("as it was", 1, x.girl(1));
    }

    // "THE IMAGE (one) of all may be kept, and gone back to"; back: "false, and nothing happens, if none was kept"
    private static void oneImage() {
        GlassHill x = Checks.told("place;thing 1 worth 1 at 0");
        x.take(0);
        Checks.due("none", false, x.back());
        Checks.due("nothing happens", 1, x.girl(3));
        x.image();
        x.delay(1);
        x.image();
        x.delay(1);
        for (int i = 0; i < 3; i++) {
            Checks.due("the latest one alone", true, x.back());
            Checks.due("time", 1, x.girl(1));
            x.delay(5);
        }
        x.back();
        x.image();
        x.lay(0);
        x.back();
        Checks.due("carried", 1, x.girl(3));
    }

    // "of all"
    private static void imageOfAll() {
        GlassHill x = new GlassHill();
        x.image();
        String first = Checks.all(x);
        Checks.tale(x, "place;place;road 0 1 long 2;thing 1 worth 1 at 0;keeper 1 lock 1 1 takes has 2 worth 2;brother 1 lock 2 2 way 1 due 1");
        Checks.law(x, "slow 1;slow 1 if hour > 2");
        x.take(0);
        x.go(0);
        x.pay(0);
        x.free(0);
        GlassHill y = Checks.told("place;place;road 0 1 long 2;thing 1 worth 1 at 0;keeper 1 lock 1 1 takes has 2 worth 2;"
            + "brother 1 lock 2 2 way 1 due 1");
        Checks.law(y, "slow 1;slow 1 if hour > 2");
        y.take(0);
        y.go(0);
        y.pay(0);
        y.free(0);
        y.image();
        y.back();
        String second = Checks.all(y);
        x.image();
        Checks.law(x, "bar;bar;bar");
        Checks.tale(x, "place;keeper 0 lock 0 0;road 0 2 long 1;brother 2 lock 0 0 way 0 due 0");
        x.delay(30);
        x.lay(1);
        x.back();
        Checks.same("all as it was kept", second, x);
        Checks.due("the law holds again", 4, x.rule(0, 1));
        Checks.due("back by it", 7, x.go(0));
        GlassHill z = new GlassHill();
        z.image();
        Checks.tale(z, "place;place;road 0 1 long 2");
        Checks.law(z, "slow 1");
        z.go(0);
        Checks.due("back to nothing", true, z.back());
        Checks.same("nothing", first, z);
        Checks.due("texts are told anew", 1, Checks.tale(z, "place"));
    }

    /** What was kept is undone and done otherwise: the image still tells how it was done first. */
    private static void imageOfWhatIsDoneOtherwise() {
        GlassHill x = Checks.told("place;place;road 0 1 long 2;road 1 0 long 3;keeper 0 lock 0 0;keeper 1 lock 0 0;thing 0 worth 1 at 0;"
            + "thing 0 worth 1 at 0;brother 1 lock 0 0 way 1 due 1");
        x.take(0);
        x.take(1);
        x.pay(0);
        x.go(0);
        x.free(0);
        x.image();
        String kept = "log 0 0 0, freed 2, came 0, passed 1";
        Checks.due(kept, true, kept.equals(told(x)));
        for (int i = 0; i < 3; i++) {
            x.undo();
        }
        Checks.illegalState("he did not let her pass", () -> x.go(0));
        x.delay(4);
        x.pay(1);
        x.go(1);
        x.pay(0);
        x.delay(1);
        x.free(0);
        String other = "log 0 1 4, freed 8, came 1, passed 3";
        Checks.due(told(x), true, other.equals(told(x)));
        x.back();
        Checks.due(told(x), true, kept.equals(told(x)));
        // The image is kept ahead of any log; then at 1 he is the first to let her pass.
        GlassHill y = Checks.told("place;place;road 0 1 long 2;keeper 1 lock 0 0;thing 0 worth 1 at 0");
        y.take(0);
        y.go(0);
        y.pay(0);
        y.image();
        y.undo();
        y.go(0);
        Checks.tale(y, "keeper 0 lock 0 0");
        y.pay(0);
        Checks.due("at 0", 0, y.log(0, 0));
        y.back();
        Checks.due("at 1", 1, y.log(0, 0));
        Checks.due("at 2 hours", 2, y.log(0, 2));
        Checks.due("no keeper at 0", 0, y.place(0, 0));
    }

    private static String told(GlassHill x) {
        return "log " + x.log(0, 0) + " " + x.log(0, 1) + " " + x.log(0, 2) + ", freed " + x.brother(0, 5) + ", came " + x.girl(2)
            + ", passed " + x.count(8);
    }

    // "(but for the TAPE, fault() and THE IMAGE itself)"
    private static void backButForTheTape() {
        GlassHill x = Checks.told("place");
        x.image();
        Checks.tape(x, "bar;bar;oh");
        Checks.illegalArgument("wrong", x::law);
        x.feed(0, 0, 0, 0, 0);
        x.back();
        Checks.due("the tape", true, x.end(20));
        Checks.due("fault", 8, x.fault());
        Checks.due("the image", true, x.back());
        Checks.rightLaw(x, "bar", 1);
        x.back();
        Checks.due("fault of the latest text", -1, x.fault());
    }
}
