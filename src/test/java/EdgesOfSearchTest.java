/**
 * ALL that she can come to (promises 20 to 23), sentence by sentence: the last that is still allowed, and the
 * first that no longer is. How many STATES there are is counted by hand in each test.
 */
public final class EdgesOfSearchTest {
    public static void main(String[] args) {
        thirtyHoursByGoing();
        thirtyHoursByWaiting();
        thirtyHoursFromNowOn();
        noLay();
        waitsHourByHour();
        waitsAsTheKeeperLets();
        cameBy();
        cameByAtFirst();
        carriedLostPassed();
        whatHeHasIsCarried();
        whatHeHasLies();
        whatLiesIsTakenLater();
        freedOnes();
        roomForFour();
        sixThousand();
        tooManyForAll();
        soonestOfSets();
        sparedOfSets();
        lockedPlaces();
        lawOnTheWay();
        mealsOnTheWay();
        highestNumbers();
        numbersDoNotMix();
        lostForGood();
        nothingIsLeftOfOnesAhead();
        wrongAsked();
        Checks.finish("EdgesOfSearchTest");
    }

    // "within 30 hours"
    private static void thirtyHoursByGoing() {
        GlassHill x = Checks.told("place;place;place;place;place;road 0 1 long 9;road 1 2 long 9;road 2 3 long 9;road 3 4 long 3;road 2 4 long 1;"
            + "thing 0 worth 1 at 0;brother 4 lock 0 0 way 0 due 0");
        Checks.law(x, "bar if road > 3");
        Checks.due("30 hours", 30, x.reached(4));
        Checks.due("freed in the 30th", 30, x.soonest(1));
        Checks.law(x, "bar if road > 3;slow 1 if from > 2");
        Checks.due("31 hours", -1, x.reached(4));
        Checks.due("not freed", -1, x.soonest(1));
        Checks.due("27 are within", 27, x.reached(3));
        Checks.law(x, "slow 5 if road > 3");
        Checks.due("24 hours", 24, x.reached(4));
        GlassHill y = Checks.told("place;place;road 0 1 long 1");
        Checks.law(y, "slow 9;slow 9;slow 9;slow 2");
        Checks.due("one road of 30", 30, y.reached(1));
        Checks.due("31 states at 0, one at 1", 32, y.locked(true));
        Checks.law(y, "slow 9;slow 9;slow 9;slow 3");
        Checks.due("one road of 31", -1, y.reached(1));
        Checks.due("31 states at 0", 31, y.locked(true));
        Checks.law(y, "slow 9;slow 9;slow 9;slow 9;slow 9;slow 9;slow 9;slow 9;slow 9;slow 9;slow 9;slow 9");
        Checks.due("one road of 109", -1, y.reached(1));
    }

    private static void thirtyHoursByWaiting() {
        GlassHill x = Checks.told("place;place;road 0 1 long 1");
        Checks.law(x, "bar if day < 1 or hour < 5");
        Checks.due("sets out at 29", 30, x.reached(1));
        Checks.due("31 states at 0, one at 1", 32, x.locked(true));
        Checks.law(x, "bar if day < 1 or hour < 6");
        Checks.due("sets out at 30", -1, x.reached(1));
        Checks.due("31 states at 0", 31, x.locked(true));
    }

    // "from now on"
    private static void thirtyHoursFromNowOn() {
        GlassHill x = Checks.told("place;place;road 0 1 long 1");
        x.delay(48);
        x.delay(2);
        Checks.law(x, "bar if from > 0");
        Checks.due("31 at 0, and those of the 1st hour to the 30th at 1", 61, x.locked(true));
        Checks.law(x, "bar if day < 3 or hour < 7");
        Checks.due("sets out at 79", 30, x.reached(1));
        Checks.law(x, "bar if day < 3 or hour < 8");
        Checks.due("sets out at 80", -1, x.reached(1));
        Checks.law(x, "");
        x.go(0);
        Checks.due("back", 1, x.reached(0));
        Checks.due("where she is", 0, x.reached(1));
    }

    // "(no LAY; ...)"
    private static void noLay() {
        GlassHill x = Checks.told("place;place;road 0 1 long 9;thing 0 worth 1 at 0");
        x.take(0);
        Checks.law(x, "bar");
        Checks.due("carried for ever", 31, x.locked(true));
        x.lay(0);
        Checks.due("lies, or is carried", 62, x.locked(true));
    }

    // "WAIT hour by hour"; "unlike STATES by hours gone"
    private static void waitsHourByHour() {
        GlassHill x = Checks.told("place");
        Checks.due("now, and each of 30 hours", 31, x.locked(true));
        x.delay(13);
        Checks.due("and later", 31, x.locked(true));
    }

    // "WAIT an hour: refused, if the KEEPER where she is EATS in the HOUR that comes"
    private static void waitsAsTheKeeperLets() {
        GlassHill x = Checks.told("place;keeper 0 lock 0 1 eats 22 to 22");
        Checks.due("0 to 21", 22, x.locked(true));
        x.delay(20);
        Checks.due("20 and 21", 2, x.locked(true));
        x.delay(1);
        Checks.due("21 alone", 1, x.locked(true));
        GlassHill y = Checks.told("place;keeper 0 lock 0 1 eats 0 to 0");
        Checks.due("0 to 23", 24, y.locked(true));
        y.delay(1);
        Checks.due("1 to 23", 23, y.locked(true));
        GlassHill z = Checks.told("place;place;keeper 1 lock 0 1 eats 0 to 23");
        Checks.due("he is elsewhere", 31, z.locked(true));
    }

    // "the ROAD by which she CAME"
    private static void cameBy() {
        GlassHill x = Checks.told("place;place;road 0 1 long 1;road 0 1 long 1");
        Checks.law(x, "bar if from > 0 or hour + day > 0");
        Checks.due("31 at 0, 30 by each road", 91, x.locked(true));
        Checks.law(x, "bar if from > 0 or hour + day > 0 or road > 0");
        Checks.due("31 at 0, 30 by the first", 61, x.locked(true));
        // At 1 she has 30 hours by each road, and back at 0 again 29 by each: a keeper lets her go by that road alone.
        GlassHill y = Checks.told("place;place;road 0 1 long 1;road 0 1 long 1;keeper 1 lock 0 1");
        Checks.law(y, "bar if from < 1 and hour + day > 0");
        Checks.due("and back by the road by which she came", 31 + 2 * 30 + 2 * 29, y.locked(true));
        GlassHill z = Checks.told("place;place;place;road 0 1 long 1;road 0 1 long 1;road 1 2 long 1;keeper 1 lock 0 1");
        Checks.law(z, "bar if road < 1 and from > 0");
        Checks.due("not on", -1, z.reached(2));
    }

    // "(... or none (at first)"; GO: "or it is the ROAD by which she CAME"
    private static void cameByAtFirst() {
        GlassHill x = Checks.told("place;place;place;road 0 1 long 1;road 0 1 long 1;road 1 2 long 1;keeper 1 lock 0 1;keeper 0 lock 0 1");
        Checks.due("by none: nowhere", -1, x.reached(1));
        Checks.due("states", 31, x.locked(true));
        GlassHill y = Checks.told("place;place;place;road 0 1 long 1;road 0 1 long 1;road 1 2 long 1;keeper 1 lock 0 1");
        y.go(1);
        Checks.due("back", 1, y.reached(0));
        Checks.due("not on", -1, y.reached(2));
        Checks.law(y, "bar if road < 2 and road > 0");
        Checks.due("not by the other one", -1, y.reached(0));
        Checks.law(y, "bar if road < 1");
        Checks.due("by the same one", 1, y.reached(0));
        Checks.law(y, "");
        y.go(1);
        y.go(0);
        Checks.law(y, "bar if road < 1");
        Checks.due("not by the other one", -1, y.reached(0));
        Checks.law(y, "bar if road > 0");
        Checks.due("by the same one, the first", 1, y.reached(0));
    }

    // "what is carried, LOST, ..., PASSED"
    private static void carriedLostPassed() {
        GlassHill x = Checks.told("place;keeper 0 lock 0 0 takes;thing 0 worth 1 at 0");
        Checks.due("lies, carried, lost", 93, x.locked(true));
        Checks.due("he let her pass", 0, x.locked(false));
        x.take(0);
        Checks.due("carried, lost", 62, x.locked(true));
        x.pay(0);
        Checks.due("lost", 31, x.locked(true));
        GlassHill y = Checks.told("place;keeper 0 lock 0 0;thing 0 worth 1 at 0;thing 0 worth 1 at 0");
        // Nothing carried; either, or both; with any of them he may have let her pass.
        Checks.due("seen alone", 31 * 7, y.locked(true));
        GlassHill z = Checks.told("place;keeper 0 lock 1 1 takes;thing 1 worth 1 at 0;thing 0 worth 1 at 0");
        // Four of two that are carried or not; the first may be lost by it, whether the other is carried or not.
        Checks.due("the one that fits", 31 * 6, z.locked(true));
    }

    // "what he HAS is carried"; "is HAD"
    private static void whatHeHasIsCarried() {
        GlassHill x = Checks.told("place;keeper 0 lock 0 0 has 8 worth 1;thing 0 worth 1 at 0;brother 0 lock 8 8 way 0 due 0");
        // Nothing, the thing carried, both carried, he freed.
        Checks.due("states", 31 * 4, x.locked(true));
        Checks.due("freed at once", 0, x.soonest(1));
        GlassHill y = Checks.told("place;thing 0 worth 1 at 0;thing 0 worth 1 at 0;thing 0 worth 1 at 0;keeper 0 lock 0 0 has 8 worth 1;"
            + "brother 0 lock 8 8 way 0 due 0");
        y.take(0);
        y.take(1);
        y.take(2);
        Checks.due("as the fourth", 0, y.soonest(1));
        Checks.due("as before, shown, freed", 31 * 3, y.locked(true));
    }

    // "or, if she has no ROOM, lies there"; "if he TAKES, it is LOST"
    private static void whatHeHasLies() {
        String four = ";" + Checks.times("thing 0 worth 3 at 0", 4) + ";brother 0 lock 8 8 way 0 due 0";
        GlassHill x = Checks.told("place;keeper 0 lock 0 0 has 8 worth 1" + four);
        GlassHill y = Checks.told("place;keeper 0 lock 0 0 takes has 8 worth 1" + four);
        for (int t = 1; t <= 4; t++) {
            x.take(t);
            y.take(t);
        }
        Checks.due("as before, and shown: it lies", 31 * 2, x.locked(true));
        Checks.due("she has no room", -1, x.soonest(1));
        Checks.due("he let her pass", 0, x.locked(false));
        Checks.due("as before, each of four lost, and he freed", 31 * 9, y.locked(true));
        Checks.due("what is lost makes room", 0, y.soonest(1));
        Checks.due("for this", 3, y.spared(1));
        x.pay(1);
        Checks.due("it lies", 31, x.locked(true));
        x.lay(1);
        // The one laid down or the other one taken up, or neither, and he freed by the latter.
        Checks.due("room for one", 31 * 4, x.locked(true));
        Checks.due("for it", 0, x.soonest(1));
    }

    // "lies where": what a KEEPER laid down for want of ROOM is taken later, at his PLACE alone
    private static void whatLiesIsTakenLater() {
        GlassHill x = Checks.told("place;place;road 0 1 long 1;keeper 0 lock 0 0 has 8 worth 1;keeper 1 lock 0 0 takes has 8 worth 1;"
            + Checks.times("thing 0 worth 1 at 0", 4) + ";brother 1 lock 8 8 way 0 due 0;brother 0 lock 8 8 way 0 due 0");
        for (int t = 2; t <= 5; t++) {
            x.take(t);
        }
        Checks.due("what the second one has", 1, x.soonest(1));
        Checks.due("and back with it", 2, x.soonest(2));
        Checks.due("both", 2, x.soonest(3));
        GlassHill y = Checks.told("place;place;road 0 1 long 1;keeper 0 lock 0 0 has 8 worth 1;keeper 1 lock 0 0 takes;"
            + Checks.times("thing 0 worth 1 at 0", 4) + ";brother 1 lock 8 8 way 0 due 0;brother 0 lock 8 8 way 0 due 0");
        for (int t = 1; t <= 4; t++) {
            y.take(t);
        }
        Checks.due("there and back, taken and freed", 2, y.soonest(2));
        Checks.due("and there once more", 3, y.soonest(1));
        y.pay(1);
        y.go(0);
        Checks.due("it lies at 0 already", 2, y.soonest(1));
        y.pay(1);
        y.go(0);
        y.take(0);
        y.go(0);
        y.lay(0);
        y.go(0);
        Checks.due("laid at 1, where she does not find the other's", 1, y.soonest(1));
        Checks.due("and back", 2, y.soonest(2));
    }

    // "FREED"
    private static void freedOnes() {
        GlassHill x = Checks.told("place;thing 0 worth 1 at 0;brother 0 lock 0 0 way 0 due 0;brother 0 lock 0 0 way 0 due 0;brother 0 lock 1 1 way 0 due 0");
        Checks.due("not carried, or carried and any of two freed", 31 * 5, x.locked(true));
        x.take(0);
        Checks.due("carried", 31 * 4, x.locked(true));
        x.free(1);
        Checks.due("one is freed", 31 * 2, x.locked(true));
        x.delay(1);
        x.free(0);
        Checks.due("both are", 31, x.locked(true));
        Checks.due("in no time", 0, x.soonest(3));
        Checks.due("nobody ever frees the third", -1, x.soonest(4));
    }

    // "carries at most 4 THINGS"
    private static void roomForFour() {
        GlassHill x = Checks.told("place;" + Checks.times("thing 0 worth 1 at 0", 5));
        Checks.due("all sets of five but the whole", 31 * 31, x.locked(true));
        x.take(4);
        Checks.due("all sets of four but the whole", 15 * 31, x.locked(true));
        x.lay(4);
        x.take(0);
        Checks.due("as many", 15 * 31, x.locked(true));
    }

    // "if they are more than 6000 (that now, too): -3"
    private static void sixThousand() {
        GlassHill x = Checks.told("place;place;road 0 1 long 9;thing 0 worth 1 at 0;thing 0 worth 1 at 0",
            Checks.times("brother 0 lock 0 0 way 0 due 0", 6));
        // 1 + 3 * 64 in each of 31 hours; and 17 at place 1, those of the 14th hour to the 30th.
        Checks.law(x, "bar if from > 0 or hour + day > 0 or carried > 0;slow 5");
        Checks.due("6000", 6000, x.locked(true));
        Checks.due("6000", 0, x.locked(false));
        Checks.due("6000", 0, x.soonest(63));
        Checks.due("6000", 0, x.spared(63));
        Checks.due("6000", 14, x.reached(1));
        Checks.law(x, "bar if from > 0 or hour + day > 0 or carried > 0;slow 4");
        Checks.due("6001", -3, x.locked(true));
        Checks.due("6001", -3, x.locked(false));
        Checks.due("6001", -3, x.soonest(63));
        Checks.due("6001", -3, x.spared(63));
        Checks.due("6001", -3, x.reached(1));
        Checks.due("6001", -3, x.reached(0));
    }

    // "-3 to all of the following"
    private static void tooManyForAll() {
        GlassHill x = Checks.told("place;" + Checks.times("thing 0 worth 1 at 0", 8));
        // 1 + 8 + 28 + 56 + 70 sets of four at the most.
        Checks.due("163 in each hour", 31 * 163, x.locked(true));
        Checks.tale(x, "thing 0 worth 1 at 0");
        Checks.due("256 in each hour", -3, x.locked(true));
        Checks.due("soonest of none", -3, x.soonest(0));
        Checks.due("soonest of sets that are none", -3, x.soonest(-1));
        Checks.due("spared of none", -3, x.spared(0));
        Checks.due("reached where she is", -3, x.reached(0));
        Checks.due("locked without a keeper", -3, x.locked(false));
        Checks.outOfBounds("reached", () -> x.reached(1));
        Checks.due("but not to what does not follow: stands", 510, x.stands(0, false));
        Checks.due("far", 0, x.far(0, 0));
        x.take(0);
        x.take(1);
        x.take(2);
        Checks.due("seven left, room for one", 31 * 7, x.locked(true));
        Checks.due("and so all the others", 0, x.reached(0));
    }

    // SOONEST: "in how many hours all BROTHERS of a set can be FREED; none"; "Sets are bits; of none they count for nothing"
    private static void soonestOfSets() {
        GlassHill x = Checks.told("place;place;place;road 0 1 long 3;road 0 2 long 5;thing 0 worth 1 at 0;brother 1 lock 0 0 way 0 due 0;"
            + "brother 2 lock 0 0 way 0 due 0;brother 0 lock 1 1 way 0 due 0");
        Checks.due("none of them", 0, x.soonest(0));
        Checks.due("the first", 3, x.soonest(1));
        Checks.due("the second", 5, x.soonest(2));
        Checks.due("there, back and there", 11, x.soonest(3));
        Checks.due("the third never", -1, x.soonest(4));
        Checks.due("nor with others", -1, x.soonest(5));
        Checks.due("bits that are none", 0, x.soonest(8));
        Checks.due("bits that are none", 3, x.soonest(1 | 8 | 1 << 31));
        Checks.due("bits that are none", 0, x.soonest(Integer.MIN_VALUE));
        Checks.due("all bits", -1, x.soonest(-1));
        x.take(0);
        x.go(0);
        x.free(0);
        Checks.due("freed already", 0, x.soonest(1));
        Checks.due("the other one", 8, x.soonest(3));
    }

    // SPARED: "the least WORTH of what was LOST from now on; none"
    private static void sparedOfSets() {
        GlassHill x = Checks.told("place;place;place;road 0 1 long 1;road 1 2 long 1;keeper 0 lock 0 0 takes;keeper 1 lock 0 0 takes;thing 0 worth 9 at 0;"
            + "thing 0 worth 4 at 0;thing 0 worth 7 at 0;brother 2 lock 0 0 way 0 due 0;brother 0 lock 0 0 way 0 due 0;brother 2 lock 1 1 way 0 due 0");
        Checks.due("nobody, nothing", 0, x.spared(0));
        Checks.due("who is here", 0, x.spared(2));
        Checks.due("the two that are worth least", 11, x.spared(1));
        Checks.due("both", 11, x.spared(3));
        Checks.due("never", -1, x.spared(4));
        Checks.due("never", -1, x.spared(7));
        Checks.due("bits that are none", 11, x.spared(1 | 1 << 7 | 1 << 31));
        Checks.due("bits that are none", 0, x.spared(-8));
        Checks.due("all bits", -1, x.spared(-1));
        x.take(0);
        x.pay(0);
        Checks.due("what was lost ahead of now is not counted", 4, x.spared(1));
        Checks.due("nothing more", 0, x.spared(2));
        x.take(1);
        x.take(2);
        x.go(0);
        x.pay(2);
        x.go(1);
        x.free(0);
        Checks.due("freed already", 0, x.spared(1));
        Checks.due("what she still has", 0, x.spared(3));
    }

    // LOCKED: "PLACES whose KEEPERS let her PASS in none of these STATES, as bits"
    private static void lockedPlaces() {
        GlassHill x = Checks.told(Checks.times("place", 10), "keeper 0 lock 0 0;keeper 9 lock 0 0;keeper 3 lock 1 1;keeper 4 lock 0 0;"
            + "road 0 9 long 9;road 9 4 long 9;road 0 3 long 1;thing 0 worth 1 at 0");
        Checks.law(x, "slow 6");
        Checks.due("at 4 after 30 hours", 8, x.locked(false));
        Checks.law(x, "slow 7");
        Checks.due("at 4 after 32 hours", 8 + 16, x.locked(false));
        Checks.law(x, "slow 9;slow 9;slow 9");
        Checks.due("not at 9 either, after 36", 512 + 8 + 16, x.locked(false));
        Checks.law(x, "bar");
        Checks.due("nor at any", 512 + 8 + 16, x.locked(false));
        x.take(0);
        x.pay(0);
        x.lay(0);
        Checks.due("he let her pass ahead of now", 512 + 8 + 16, x.locked(false));
        GlassHill y = Checks.told("place;place;keeper 0 lock 0 0;keeper 1 lock 0 0");
        Checks.due("nothing to show", 3, y.locked(false));
        Checks.tale(y, "thing 0 worth 1 at 0");
        Checks.due("no road to the second", 2, y.locked(false));
    }

    // "Of a ROAD ... at a TIME: carried, worth: of what THE GIRL carries", also in the search
    private static void lawOnTheWay() {
        GlassHill x = Checks.told("place;place;place;road 0 1 long 1;road 1 2 long 1;thing 0 worth 5 at 0;thing 0 worth 6 at 1");
        Checks.law(x, "bar if from > 0 and worth < 11");
        Checks.due("with both", 2, x.reached(2));
        Checks.law(x, "bar if from > 0 and carried > 0");
        Checks.due("with none", 2, x.reached(2));
        Checks.law(x, "bar if from > 0 and (carried < 1 or worth < 6);bar if from > 0 and worth > 6");
        Checks.due("with the second alone", 2, x.reached(2));
        Checks.law(x, "bar if from > 0 and not night");
        Checks.due("by day to 1, on by day's begin", 2, x.reached(2));
        Checks.law(x, "bar if night");
        Checks.due("not ahead of 6", 8, x.reached(2));
        x.delay(18);
        Checks.due("by 18 and 19", 2, x.reached(2));
        x.delay(1);
        Checks.due("by 19, and by 6 of the next day", 12, x.reached(2));
        Checks.law(x, "bar if day < 1 or hour < 2;slow 3 if hour < 3");
        Checks.due("sets out at 27, when it is no more slow", 10, x.reached(2));
    }

    // "the KEEPER at the other end (if any) does not EAT in the HOUR in which she comes there", also in the search
    private static void mealsOnTheWay() {
        GlassHill x = Checks.told("place;place;road 0 1 long 1;keeper 1 lock 0 1 eats 21 to 23");
        x.delay(20);
        Checks.due("comes at 24", 4, x.reached(1));
        x.delay(48);
        Checks.due("comes at 72", 4, x.reached(1));
        GlassHill y = Checks.told("place;place;road 0 1 long 1;keeper 1 lock 0 1 eats 1 to 22");
        Checks.due("comes at 23", 23, y.reached(1));
        y.delay(10);
        Checks.due("comes at 23", 13, y.reached(1));
        Checks.law(y, "slow 1");
        Checks.due("comes at 23", 13, y.reached(1));
        Checks.law(y, "bar if hour > 20");
        Checks.due("comes at 24, but she had to set out at 23; so at 47, with the same bar", -1, y.reached(1));
        GlassHill z = Checks.told("place;place;road 0 1 long 1;keeper 1 lock 0 1 eats 0 to 23");
        Checks.due("always", -1, z.reached(1));
    }

    /** The last PLACE, THING, ROAD and BROTHER are found as the first ones are. */
    private static void highestNumbers() {
        GlassHill x = Checks.told(Checks.times("place", 10), Checks.times("road 1 2 long 1", 14), "road 1 2 long 1;road 0 9 long 4;"
            + Checks.times("thing 0 worth 1 at 5", 8) + ";thing 1 worth 3 at 0",
            "keeper 9 lock 1 1 takes has 8 worth 50;brother 9 lock 1 1 way 0 due 0;" + Checks.times("brother 9 lock 0 1 way 0 due 0", 5)
            + ";brother 0 lock 8 8 way 0 due 0");
        Checks.law(x, "bar if from > 8 and carried < 1");
        Checks.due("the last place", 4, x.reached(9));
        Checks.due("the last thing, the last brother", 8, x.soonest(1 << 6));
        Checks.due("what it costs", 3, x.spared(1 << 6));
        Checks.due("the first and the last one", 8, x.soonest(1 + (1 << 6)));
        Checks.due("one of the others", -1, x.soonest(1 << 5));
        Checks.due("nobody is locked", 0, x.locked(false));
        Checks.due("no way", -1, x.reached(5));
        x.take(8);
        x.go(15);
        Checks.due("back by the last road", 4, x.reached(0));
        x.free(0);
        x.pay(8);
        Checks.due("the others at 9 never", -1, x.soonest(2));
        Checks.due("who is freed", 0, x.soonest(1));
        Checks.due("the last one", 4, x.soonest(1 + (1 << 6)));
    }

    /** The last of one kind is not the first of another, whatever a STATE is held in. */
    private static void numbersDoNotMix() {
        // The last keeper lets her pass; the first brother is not freed by that.
        GlassHill x = Checks.told(Checks.times("place", 10), "road 0 9 long 1;keeper 9 lock 0 0;thing 0 worth 1 at 0;brother 0 lock 0 1 way 0 due 0");
        Checks.due("passed", 0, x.locked(false));
        Checks.due("not freed", -1, x.soonest(1));
        // The last thing lies for want of room; the first keeper did not let her pass by that.
        String four = Checks.times("thing 0 worth 1 at 0", 4);
        GlassHill y = Checks.told("place;place;road 0 1 long 1;" + four, Checks.times("thing 0 worth 1 at 1", 5) + ";keeper 1 lock 0 0 has 0 worth 1");
        for (int t = 0; t < 4; t++) {
            y.take(t);
        }
        y.go(0);
        Checks.tale(y, "keeper 0 lock 0 1");
        Checks.due("locked", 1, y.locked(false));
        // The first thing lies for want of room, or he has none; the last thing is not lost by that.
        for (int has = 0; has < 2; has++) {
            GlassHill z = Checks.told("place;place;road 0 1 long 1;brother 1 lock 0 0 way 0 due 0;" + (has == 1 ? "keeper 0 lock 0 0 has 0 worth 1;"
                : "thing 0 worth 1 at 1;keeper 0 lock 0 0;") + four, Checks.times("thing 0 worth 50 at 1", 5));
            for (int t = 1; t <= 4; t++) {
                z.take(t);
            }
            Checks.due("passed, freed", 1, z.soonest(1));
            Checks.due("nothing lost", 0, z.spared(1));
        }
        // The last thing is lost; the first thing, which another one has, does not lie there by that.
        GlassHill v = Checks.told("place;place;place;place;road 0 1 long 1;road 1 2 long 1;keeper 2 lock 0 1 has 8 worth 1;keeper 1 lock 0 0 takes;"
            + "brother 2 lock 8 8 way 0 due 0", Checks.times("thing 0 worth 1 at 3", 8) + ";thing 0 worth 1 at 0");
        Checks.due("reached", 2, v.reached(2));
        v.take(9);
        v.go(0);
        v.pay(9);
        Checks.due("not freed", -1, v.soonest(1));
        // What lies at 0 for want of room is not taken at 2, where no keeper is.
        GlassHill w = Checks.told("place;place;place;road 0 1 long 1;road 1 2 long 1;keeper 0 lock 0 0 has 8 worth 1;keeper 1 lock 0 0 takes;"
            + "brother 2 lock 8 8 way 0 due 0;" + four);
        for (int t = 1; t <= 4; t++) {
            w.take(t);
        }
        Checks.due("to 1, back to 0, to 1, to 2", 4, w.soonest(1));
    }

    // "it is LOST": what lay for want of ROOM, was taken and then given away lies there no more
    private static void lostForGood() {
        String eats = " eats 9 to 9";
        GlassHill x = Checks.told("place;place;place;place;road 0 1 long 1;road 0 2 long 1;road 2 3 long 1;" + Checks.times("thing 0 worth 1 at 0", 4),
            "keeper 0 lock 0 0" + eats + " has 8 worth 1;keeper 1 lock 0 0" + eats + " takes;keeper 2 lock 8 8" + eats + " takes;"
            + "keeper 3 lock 0 0" + eats + ";brother 2 lock 8 8 way 0 due 0;brother 3 lock 8 8 way 0 due 0");
        for (int t = 0; t < 4; t++) {
            x.take(t);
        }
        Checks.due("to 1, to 0, to 2", 3, x.soonest(1));
        Checks.due("to 3", 4, x.reached(3));
        Checks.due("but not with it", -1, x.soonest(2));
        Checks.due("all let her pass", 0, x.locked(false));
    }

    // "from now on": a search of few STATES behind one of many, whatever is at the end of the few
    private static void nothingIsLeftOfOnesAhead() {
        GlassHill x = Checks.told("place;place;road 0 1 long 1;keeper 1 lock 0 1 eats 22 to 22;thing 0 worth 5 at 0;brother 0 lock 0 0 way 0 due 0");
        x.take(0);
        x.go(0);
        Checks.tale(x, "keeper 0 lock 0 0 takes");
        Checks.law(x, "bar if from > 0 and hour > 2");
        x.go(0);
        x.image();
        for (int waits = 0; waits < 19; waits++) {
            x.back();
            Checks.due("here", 0, x.soonest(1));
            x.go(0);
            if (waits > 0) {
                x.delay(waits);
            }
            Checks.due("till 21", 19 - waits, x.locked(true));
            Checks.due("nobody is freed at 1", -1, x.soonest(1));
            Checks.due("nor spared", -1, x.spared(1));
            Checks.due("nobody is passed", 3, x.locked(false));
            Checks.due("she is where she is", -1, x.reached(0));
        }
    }

    // "IllegalStateException: there is no PLACE"; reached: "IndexOutOfBoundsException"
    private static void wrongAsked() {
        GlassHill none = new GlassHill();
        for (int set : new int[] {0, 1, -1}) {
            Checks.illegalState("soonest", () -> none.soonest(set));
            Checks.illegalState("spared", () -> none.spared(set));
        }
        Checks.illegalState("locked", () -> none.locked(false));
        Checks.illegalState("states", () -> none.locked(true));
        Checks.outOfBounds("reached", () -> none.reached(0));
        Checks.tale(none, "place;place");
        Checks.due("reached(0)", 0, none.reached(0));
        Checks.due("reached(1)", -1, none.reached(1));
        for (int bad : new int[] {2, -1, 10, Integer.MIN_VALUE, Integer.MAX_VALUE}) {
            Checks.outOfBounds("reached(" + bad + ")", () -> none.reached(bad));
        }
        none.image();
        GlassHill back = new GlassHill();
        back.image();
        Checks.tale(back, "place");
        Checks.due("soonest", 0, back.soonest(0));
        back.back();
        Checks.illegalState("gone back to no place", () -> back.soonest(0));
        Checks.illegalState("gone back to no place", () -> back.locked(true));
        Checks.outOfBounds("gone back to no place", () -> back.reached(0));
    }
}
