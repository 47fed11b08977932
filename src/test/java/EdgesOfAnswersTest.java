/**
 * What is asked of what there is (promises 7 to 13, 24 to 34 and 39), sentence by sentence: the last that is
 * still allowed, and the first that no longer is.
 */
public final class EdgesOfAnswersTest {
    private interface Asked {
        long answer(int number);
    }

    public static void main(String[] args) {
        noPlaceYet();
        whatThereIs();
        anotherWhat();
        eachNumberOfALine();
        withoutAKeeper();
        beginsThere();
        nightAndDay();
        termsOfARoad();
        longAndSlow();
        fitsTheLock();
        standsIn();
        neededLocks();
        farByLongAlone();
        turnsBack();
        meets();
        surest();
        home();
        gateOneEachHour();
        gateFirstOrder();
        platesOfBrothers();
        platesOnTheTape();
        locksThatFit();
        locksOnTheTape();
        shirtsHours();
        shirtsUndone();
        shirtsDumb();
        signs();
        counts();
        Checks.finish("EdgesOfAnswersTest");
    }

    // GlassHill(): "No PLACE yet"
    private static void noPlaceYet() {
        GlassHill x = new GlassHill();
        Checks.due("places", 0, x.count(0));
        Checks.outOfBounds("place", () -> x.place(0, 0));
        Checks.illegalState("girl", () -> x.girl(0));
        Checks.illegalState("soonest", () -> x.soonest(0));
        Checks.illegalState("spared", () -> x.spared(0));
        Checks.illegalState("locked", () -> x.locked(false));
        Checks.illegalState("locked", () -> x.locked(true));
        Checks.illegalState("turnBack", () -> x.turnBack(0));
        Checks.outOfBounds("reached", () -> x.reached(0));
        Checks.due("needed", 0, x.needed());
        Checks.due("gate", 0, x.gate(-1));
        Checks.due("locks", 81, x.locks(false));
        Checks.due("plates", 1, x.plates(-1));
        Checks.due("shirts", 1, x.shirts(1, 1, 0, false));
        Checks.tale(x, "place");
        Checks.due("one place is enough: girl", 0, x.girl(0));
        Checks.due("soonest", 0, x.soonest(0));
        Checks.due("spared", 0, x.spared(0));
        Checks.due("locked", 31, x.locked(true));
        Checks.due("turnBack", 0, x.turnBack(0));
        Checks.due("reached", 0, x.reached(0));
    }

    private static GlassHill some() {
        return Checks.told("place;place;place;keeper 1 lock 7 3 eats 2 to 4 takes has 11 worth 8;thing 3 worth 7 at 2;"
            + "road 0 1 long 2 chance 3;road 2 1 long 9;brother 2 lock 5 4 way 31 due 123;brother 0 lock 1 1 way 0 due 0");
    }

    private static void bounds(String name, int many, Asked asked) {
        asked.answer(0);
        asked.answer(many - 1);
        for (int bad : new int[] {-1, many, many + 1, 10, 16, 99, Integer.MIN_VALUE, Integer.MAX_VALUE}) {
            Checks.outOfBounds(name + " " + bad, () -> asked.answer(bad));
        }
    }

    // "IndexOutOfBoundsException: there is no such PLACE, THING, ROAD, BROTHER"; "the one told first is thrown"
    private static void whatThereIs() {
        GlassHill x = some();
        bounds("place", 3, n -> x.place(n, 0));
        bounds("reached", 3, n -> x.reached(n));
        bounds("fits at", 3, n -> x.fits(0, n == 0 || n == 2 ? 1 : n) ? 1 : 0);
        bounds("far from", 3, n -> x.far(n, 0));
        bounds("far to", 3, n -> x.far(0, n));
        bounds("meet of one", 3, n -> x.meet(n, 0, true));
        bounds("meet of other", 3, n -> x.meet(0, n, false));
        bounds("surest from", 3, n -> x.surest(n, 0));
        bounds("surest to", 3, n -> x.surest(0, n));
        bounds("thing", 2, n -> x.thing(n, 0));
        bounds("fits of", 2, n -> x.fits(n, 1) ? 1 : 0);
        bounds("stands", 2, n -> x.stands(n, true));
        bounds("stands", 2, n -> x.stands(n, false));
        bounds("road", 2, n -> x.road(n, 0));
        bounds("brother", 2, n -> x.brother(n, 0));
        bounds("sign", 2, n -> x.sign(n));
        Checks.due("rule(0, 0)", 0, x.rule(0, 0));
        for (int bad : new int[] {-1, 2, 16, Integer.MIN_VALUE, Integer.MAX_VALUE}) {
            Checks.outOfBounds("rule", () -> x.rule(bad, 0));
            Checks.outOfBounds("rule, another what", () -> x.rule(bad, 3));
            Checks.outOfBounds("place, another what", () -> x.place(bad == 2 ? 3 : bad, 9));
            Checks.outOfBounds("thing, another what", () -> x.thing(bad, 4));
            Checks.outOfBounds("road, another what", () -> x.road(bad, 4));
            Checks.outOfBounds("brother, another what", () -> x.brother(bad, 7));
            Checks.outOfBounds("fits, no keeper", () -> x.fits(bad, 0) ? 1 : 0);
        }
    }

    private static void whats(String name, int many, Asked asked) {
        for (int what = 0; what < many; what++) {
            asked.answer(what);
        }
        for (int bad : new int[] {-1, many, many + 1, 99, Integer.MIN_VALUE, Integer.MAX_VALUE}) {
            Checks.noSuchElement(name + " what " + bad, () -> asked.answer(bad));
        }
    }

    // "NoSuchElementException: another what"
    private static void anotherWhat() {
        GlassHill x = some();
        whats("place with a keeper", 9, what -> x.place(1, what));
        whats("place without", 9, what -> x.place(0, what));
        whats("thing", 4, what -> x.thing(0, what));
        whats("road", 4, what -> x.road(0, what));
        whats("brother", 7, what -> x.brother(0, what));
        whats("girl", 5, what -> x.girl(what));
        whats("rule", 3, what -> x.rule(0, what));
        whats("log", 3, what -> x.log(0, what));
        for (int bad : new int[] {-1, 13, 14, Integer.MIN_VALUE, Integer.MAX_VALUE}) {
            Checks.due("count(" + bad + ")", -1, x.count(bad));
        }
        GlassHill none = new GlassHill();
        Checks.noSuchElement("girl without a place", () -> none.girl(5));
        Checks.noSuchElement("girl without a place", () -> none.girl(-1));
        Checks.illegalState("girl without a place", () -> none.girl(4));
    }

    /** Two of each kind, told with numbers that are all others; of the last ROAD and BROTHER, too. */
    private static void eachNumberOfALine() {
        GlassHill x = Checks.told("place;place;place;place;keeper 1 lock 6 2 eats 8 to 9 takes;keeper 3 lock 7 5 eats 10 to 11 has 12 worth 13;"
            + "thing 14 worth 15 at 2;road 3 2 long 5 chance 21;road 1 0 long 6 chance 22;brother 2 lock 11 9 way 31 due 32;"
            + "brother 3 lock 13 4 way 33 due 34;road 2 1 long 7");
        int[][] places = {{0, 0, 0, -1, -1, 0, -1, 0, 0}, {1, 6, 2, 8, 9, 1, -1, 0, 0}, {0, 0, 0, -1, -1, 0, -1, 0, 2}, {1, 7, 5, 10, 11, 0, 0, 0, 0}};
        int[][] things = {{12, 13, 1, 3}, {14, 15, 0, 2}};
        int[][] roads = {{3, 2, 5, 21}, {1, 0, 6, 22}, {2, 1, 7, 100}};
        int[][] brothers = {{2, 11, 9, 31, 32, -1, -1}, {3, 13, 4, 33, 34, -1, -1}};
        rows("place", places, x::place);
        rows("thing", things, x::thing);
        rows("road", roads, x::road);
        rows("brother", brothers, x::brother);
    }

    private interface Told {
        int answer(int which, int what);
    }

    private static void rows(String name, int[][] due, Told told) {
        for (int i = 0; i < due.length; i++) {
            for (int what = 0; what < due[i].length; what++) {
                Checks.due(name + "(" + i + ", " + what + ")", due[i][what], told.answer(i, what));
            }
        }
    }

    // place: "(0 each without a KEEPER; NONE of 3, 4, 6)"
    private static void withoutAKeeper() {
        GlassHill x = some();
        int[] without = {0, 0, 0, -1, -1, 0, -1, 0, 0};
        int[] with = {1, 7, 3, 2, 4, 1, 0, 0, 0};
        for (int what = 0; what < 9; what++) {
            Checks.due("place(0, " + what + ")", without[what], x.place(0, what));
            Checks.due("place(1, " + what + ")", with[what], x.place(1, what));
        }
        Checks.due("things that lie at 2", 2, x.place(2, 8));
        GlassHill y = Checks.told("place;keeper 0 lock 0 0");
        int[] plain = {1, 0, 0, -1, -1, 0, -1, 0, 0};
        for (int what = 0; what < 9; what++) {
            Checks.due("a plain keeper, " + what, plain[what], y.place(0, what));
        }
        GlassHill z = Checks.told("place;place;keeper 0 lock 0 0 takes has 1 worth 1;keeper 1 lock 0 0 takes has 2 worth 2;thing 3 worth 3 at 0");
        Checks.due("both take: 0", 1, z.place(0, 5));
        Checks.due("both take: 1", 1, z.place(1, 5));
        Checks.due("both have: 0", 0, z.place(0, 6));
        Checks.due("both have: 1", 1, z.place(1, 6));
        Checks.due("had", 1, z.thing(0, 2));
        Checks.due("had", 1, z.thing(1, 2));
        Checks.due("had where", 1, z.thing(1, 3));
        Checks.due("what is had does not lie", 4, z.place(0, 8));
    }

    // rule: "IllegalStateException: it does not begin there"; "2 1 if she can GO"
    private static void beginsThere() {
        GlassHill x = some();
        for (int what = -1; what < 4; what++) {
            int asked = what;
            Checks.illegalState("rule(1, " + what + ")", () -> x.rule(1, asked));
        }
        Checks.due("he eats at 2", 0, x.rule(0, 2));
        Checks.due("which is no bar", 0, x.rule(0, 0));
        x.delay(3);
        Checks.due("not at 5", 1, x.rule(0, 2));
        x.go(0);
        Checks.due("back", 1, x.rule(0, 2));
        Checks.due("he does not let her pass", 0, x.rule(1, 2));
        Checks.due("which takes as long", 9, x.rule(1, 1));
        Checks.law(x, "bar if road > 0;slow 3");
        Checks.due("barred", 1, x.rule(1, 0));
        Checks.due("as long all the same", 12, x.rule(1, 1));
        Checks.due("not barred", 0, x.rule(0, 0));
    }

    // "night: HOUR is below 6 or above 19"; "HOUR: TIME modulo 24, DAY: by 24"
    private static void nightAndDay() {
        GlassHill x = Checks.told("place;place;road 0 1 long 1");
        Checks.law(x, "bar if night;slow 3 if day > 0;slow 5 if hour < 1;slow 1 if day > 1");
        for (int time = 0; time < 50; time++) {
            int hour = time % 24;
            Checks.due("night at " + time, hour < 6 || hour > 19, x.rule(0, 0) == 1);
            int hours = 1 + (time >= 24 ? 3 : 0) + (hour == 0 ? 5 : 0) + (time >= 48 ? 1 : 0);
            Checks.due("hour and day at " + time, hours, x.rule(0, 1));
            x.delay(1);
        }
    }

    /** Whether a condition holds on a ROAD from where she is. */
    private static void holds(GlassHill x, int road, String condition, boolean due) {
        Checks.law(x, "bar if " + condition);
        Checks.due(condition, due, x.rule(road, 0) == 1);
    }

    private static void just(GlassHill x, int road, String sum, int value) {
        holds(x, road, sum + " > " + value, false);
        holds(x, road, sum + " < " + value, false);
        if (value > 0) {
            holds(x, road, sum + " > " + (value - 1), true);
        }
        holds(x, road, sum + " < " + (value + 1), true);
        holds(x, road, value + " < " + sum, false);
        holds(x, road, value + " > " + sum, false);
    }

    // "Of a ROAD from one PLACE to the other one at a TIME: carried, worth: of what THE GIRL carries: how many,
    // WORTH together"
    private static void termsOfARoad() {
        GlassHill x = Checks.told(Checks.times("place", 10), Checks.times("road 0 1 long 1", 14), "road 0 1 long 1;road 0 9 long 1;"
            + Checks.times("thing 0 worth 99 at 0", 5));
        just(x, 15, "road", 15);
        just(x, 0, "road", 0);
        just(x, 15, "from", 0);
        just(x, 15, "to", 9);
        just(x, 15, "carried", 0);
        just(x, 15, "worth", 0);
        for (int t = 0; t < 4; t++) {
            x.take(t);
        }
        just(x, 15, "carried", 4);
        just(x, 15, "worth", 396);
        just(x, 15, "worth + carried + 598", 998);
        Checks.law(x, "");
        x.go(15);
        just(x, 15, "from", 9);
        just(x, 15, "to", 0);
        just(x, 15, "hour", 1);
        just(x, 15, "day", 0);
    }

    // "HOURS it takes: LONG and the sum of N of all slow LINES that hold"
    private static void longAndSlow() {
        GlassHill x = Checks.told("place;place;road 0 1 long 9;road 0 1 long 1");
        Checks.due("no law", 9, x.rule(0, 1));
        Checks.law(x, Checks.times("slow 9", 12));
        Checks.due("the longest", 117, x.rule(0, 1));
        Checks.law(x, Checks.times("slow 0", 12));
        Checks.due("by nothing", 1, x.rule(1, 1));
        Checks.law(x, "slow 4 if 1 < 1;slow 2 if 0 < 1;bar if 1 < 0;slow 1");
        Checks.due("those that hold alone", 4, x.rule(1, 1));
        Checks.due("no bar line holds", 0, x.rule(1, 0));
        Checks.law(x, "bar if 1 < 0;slow 2;bar if 0 < 1");
        Checks.due("the last bar line holds", 1, x.rule(1, 0));
        Checks.law(x, "bar if 0 < 1;slow 2;bar if 1 < 0");
        Checks.due("the first bar line holds", 1, x.rule(1, 0));
        Checks.due("hours of a barred one", 3, x.rule(1, 1));
        Checks.law(x, "slow 9");
        Checks.due("go", 10, x.go(1));
    }

    // fits: "IllegalStateException: there is none"
    private static void fitsTheLock() {
        GlassHill x = Checks.told("place;place;place;keeper 0 lock 0 0;keeper 1 lock 0 1;thing 0 worth 1 at 0;thing 15 worth 1 at 0");
        for (int t = 0; t < 2; t++) {
            int thing = t;
            Checks.due("no mask: all", true, x.fits(t, 0));
            Checks.due("a value beyond it: none", false, x.fits(t, 1));
            Checks.illegalState("no keeper", () -> x.fits(thing, 2) ? 1 : 0);
        }
        x.take(0);
        x.pay(0);
        Checks.due("he let her pass: the lock is the same", true, x.fits(1, 0));
        GlassHill y = Checks.told("place;place;keeper 0 lock 15 15;keeper 1 lock 15 0;thing 15 worth 1 at 0;thing 14 worth 1 at 0;"
            + "thing 7 worth 1 at 0;thing 0 worth 1 at 0");
        Checks.due("all bits", true, y.fits(0, 0));
        Checks.due("but the lowest", false, y.fits(1, 0));
        Checks.due("but the highest", false, y.fits(2, 0));
        Checks.due("no bit", true, y.fits(3, 1));
        Checks.due("all bits", false, y.fits(0, 1));
    }

    // STANDS IN: "others (not LOST ones) that FIT all LOCKS ... that it FITS: as bits; the one of least WORTH (of
    // several the least number); none"
    private static void standsIn() {
        GlassHill x = Checks.told("place", "keeper 0 lock 1 1 takes;thing 1 worth 4 at 0;thing 3 worth 5 at 0;thing 1 worth 9 at 0;"
            + "thing 1 worth 5 at 0;" + Checks.times("brother 0 lock 8 8 way 0 due 0", 6) + ";brother 0 lock 2 2 way 0 due 0");
        Checks.due("of several", 2 + 4 + 8, x.stands(0, false));
        Checks.due("the least worth, the least number", 1, x.stands(0, true));
        Checks.due("the last brother's lock too: none", 0, x.stands(1, false));
        Checks.due("none", -1, x.stands(1, true));
        Checks.due("itself is none", 1 + 2 + 4, x.stands(3, false));
        Checks.due("the cheapest", 0, x.stands(3, true));
        x.take(0);
        x.pay(0);
        Checks.due("lost ones do not, and no lock is shut that it fits", 2 + 4, x.stands(3, false));
        Checks.due("for a lost one", 2 + 4 + 8, x.stands(0, false));
        x.take(1);
        x.free(6);
        Checks.due("he is freed: all others", 4 + 8, x.stands(1, false));
        Checks.due("the cheapest", 3, x.stands(1, true));
        GlassHill y = Checks.told("place;thing 0 worth 1 at 0");
        Checks.due("no other one", 0, y.stands(0, false));
        Checks.due("no other one", -1, y.stands(0, true));
        GlassHill z = Checks.told(Checks.times("place", 10), "keeper 9 lock 1 1;" + Checks.times("thing 0 worth 2 at 0", 8)
            + ";thing 1 worth 2 at 0;thing 1 worth 1 at 0");
        Checks.due("the last place's lock", 1 << 9, z.stands(8, false));
        Checks.due("the last thing", 9, z.stands(8, true));
        Checks.due("fits none: all others", 1022, z.stands(0, false));
        Checks.due("the cheapest of all", 9, z.stands(0, true));
        Checks.due("for the last one", 1 << 8, z.stands(9, false));
    }

    // NEEDED: "(PLACES of KEEPERS not PASSED as bits 0 to 9, BROTHERS not FREED as bits 10 to 16) that no THING
    // FITS but LOST ones"
    private static void neededLocks() {
        GlassHill x = Checks.told(Checks.times("place", 10), "keeper 0 lock 1 1;keeper 9 lock 2 2;"
            + Checks.times("brother 0 lock 4 4 way 0 due 0", 7));
        Checks.due("all", 1 + (1 << 9) + (127 << 10), x.needed());
        Checks.tale(x, "thing 1 worth 1 at 9");
        Checks.due("all but the first", (1 << 9) + (127 << 10), x.needed());
        Checks.tale(x, "keeper 1 lock 4 4 has 2 worth 1;keeper 2 lock 0 1");
        Checks.due("what is had counts too", 2 + 4 + (127 << 10), x.needed());
        GlassHill y = Checks.told("place;keeper 0 lock 1 1 takes;thing 1 worth 1 at 0;brother 0 lock 1 1 way 0 due 0");
        Checks.due("none", 0, y.needed());
        y.take(0);
        Checks.due("carried", 0, y.needed());
        y.pay(0);
        Checks.due("lost: the keeper let her pass, the brother is not freed", 1 << 10, y.needed());
        GlassHill z = Checks.told("place;keeper 0 lock 2 2;thing 1 worth 1 at 0;brother 0 lock 1 1 way 0 due 0;brother 0 lock 2 2 way 0 due 0");
        Checks.due("the keeper's and the second brother's", 1 + (2 << 10), z.needed());
        z.take(0);
        z.free(0);
        z.lay(0);
        Checks.due("a freed one needs none, an unfreed one still does", 1 + (2 << 10), z.needed());
    }

    // FAR: "the fewest hours by LONG alone from a PLACE to another one (KEEPERS, THE LAW not looked at); none"
    private static void farByLongAlone() {
        GlassHill x = Checks.told("place;place;place;place;keeper 1 lock 0 1 eats 0 to 23;road 0 1 long 4;road 1 2 long 4;road 0 2 long 9;road 0 2 long 9");
        Checks.law(x, "bar;slow 9");
        Checks.due("by another place, though he eats", 8, x.far(0, 2));
        Checks.due("and back", 8, x.far(2, 0));
        Checks.due("to itself", 0, x.far(3, 3));
        Checks.due("none", -1, x.far(0, 3));
        Checks.due("none", -1, x.far(3, 0));
        Checks.tale(x, "road 0 2 long 8;road 2 0 long 7");
        Checks.due("the shortest of several", 7, x.far(0, 2));
        GlassHill chain = Checks.told(Checks.times("place", 10), "road 1 0 long 9;road 2 1 long 9;road 3 2 long 9;road 4 3 long 9;"
            + "road 5 4 long 9;road 6 5 long 9;road 7 6 long 9;road 8 7 long 9;road 9 8 long 9");
        for (int p = 0; p < 10; p++) {
            Checks.due("along a chain to " + p, 9 * p, chain.far(0, p));
            Checks.due("along a chain from " + p, 9 * p, chain.far(p, 0));
        }
    }

    // TURN BACK: "the latest TIME at which she must set out for PLACE 0, to be there by a told TIME (by FAR from
    // where she is): none, if there is no way, or that is ahead of now"; "the TIME is not 0 to 100000"
    private static void turnsBack() {
        GlassHill x = Checks.told("place;place;road 0 1 long 3");
        for (int bad : new int[] {-1, 100001, Integer.MIN_VALUE, Integer.MAX_VALUE}) {
            Checks.illegalArgument("turnBack(" + bad + ")", () -> x.turnBack(bad));
        }
        Checks.due("at 0 by 0", 0, x.turnBack(0));
        Checks.due("at 0 by 100000", 100000, x.turnBack(100000));
        x.delay(2);
        Checks.due("at 0, which is ahead of now", -1, x.turnBack(1));
        Checks.due("at 0 just now", 2, x.turnBack(2));
        x.go(0);
        Checks.due("just now", 5, x.turnBack(8));
        Checks.due("ahead of now", -1, x.turnBack(7));
        Checks.due("by 0", -1, x.turnBack(0));
        Checks.due("by 1", -1, x.turnBack(1));
        Checks.due("later", 99997, x.turnBack(100000));
        Checks.law(x, "bar;slow 9");
        Checks.due("the law is not looked at", 5, x.turnBack(8));
        GlassHill none = new GlassHill();
        Checks.illegalArgument("none, told first", () -> none.turnBack(100001));
        Checks.illegalArgument("none, told first", () -> none.turnBack(-1));
        Checks.illegalState("no place", () -> none.turnBack(100000));
        Checks.illegalState("no place", () -> none.turnBack(0));
    }

    // MEET: "the fewest hours by which two who set out there at once can be in one PLACE (by LONG alone; one may
    // wait); the PLACE (the least); none"
    private static void meets() {
        GlassHill x = Checks.told(Checks.times("place", 10), "road 9 8 long 5;road 8 7 long 5;road 9 0 long 4;road 0 7 long 6;road 1 2 long 3");
        Checks.due("5 and 5", 5, x.meet(9, 7, false));
        Checks.due("there", 8, x.meet(9, 7, true));
        Checks.due("9 and 8: either place", 5, x.meet(9, 8, false));
        Checks.due("the least", 8, x.meet(9, 8, true));
        Checks.due("the other way about", 8, x.meet(8, 9, true));
        Checks.due("9 and 0", 0, x.meet(9, 0, true));
        Checks.due("one waits", 4, x.meet(9, 0, false));
        Checks.due("none", -1, x.meet(1, 0, false));
        Checks.due("none", -1, x.meet(1, 0, true));
        Checks.due("one who is nowhere else", 0, x.meet(9, 9, false));
        Checks.due("one who is nowhere else", 9, x.meet(9, 9, true));
        Checks.due("alone", 3, x.meet(3, 3, true));
        Checks.law(x, "bar;slow 9");
        Checks.due("by LONG alone", 3, x.meet(1, 2, false));
        Checks.due("the least", 1, x.meet(2, 1, true));
        GlassHill y = Checks.told("place;place;place;road 0 1 long 1;road 1 2 long 1;keeper 1 lock 0 1 eats 0 to 23");
        Checks.due("at a keeper who eats", 1, y.meet(0, 2, false));
        Checks.due("there", 1, y.meet(0, 2, true));
    }

    // SUREST: "1000000 at the first, at each ROAD times CHANCE by 100, rounded down; 0, if there is no way"
    private static void surest() {
        GlassHill x = Checks.told(Checks.times("place", 10), "road 0 1 long 9 chance 100;road 1 2 long 9 chance 99;road 2 3 long 9 chance 99;"
            + "road 3 4 long 9 chance 99;road 4 5 long 9 chance 99;road 5 6 long 9 chance 1;road 6 7 long 9 chance 1;road 7 8 long 9");
        int[] due = {1000000, 1000000, 990000, 980100, 970299, 960596, 9605, 96, 96, 0};
        for (int p = 0; p < 10; p++) {
            Checks.due("surest(0, " + p + ")", due[p], x.surest(0, p));
        }
        Checks.due("surest(9, 9)", 1000000, x.surest(9, 9));
        Checks.due("surest(9, 0)", 0, x.surest(9, 0));
        Checks.tale(x, "road 8 9 long 1 chance 1;road 0 2 long 1 chance 98;road 0 2 long 1 chance 100");
        Checks.due("96 by 100 is nothing", 0, x.surest(0, 9));
        Checks.due("from the other end it is something", 99, Checks.told("place;place;place;place;road 0 1 long 1 chance 99;"
            + "road 1 2 long 1 chance 1;road 2 3 long 1 chance 1").surest(0, 3));
        Checks.due("a surer road", 1000000, x.surest(0, 2));
        Checks.law(x, "bar");
        Checks.due("the law is not looked at", 990000, x.surest(0, 3));
        // 500000, 165000 on the one way; 330000, 165000 on the other; 33 of 165000 is 54450, and of that 99: 53905.5
        GlassHill y = Checks.told("place;place;place;place;road 0 1 long 1 chance 50;road 1 2 long 1 chance 33;road 2 3 long 1 chance 33;road 3 0 long 1 chance 5");
        Checks.due("54450", 54450, y.surest(0, 3));
        Checks.due("and back", 54450, y.surest(3, 0));
    }

    // HOME of a BROTHER: "TIME at which FREED and WAY; none"
    private static void home() {
        GlassHill x = Checks.told("place;thing 0 worth 1 at 0;brother 0 lock 0 0 way 0 due 0;brother 0 lock 0 0 way 99 due 999");
        Checks.due("not freed", -1, x.brother(0, 5));
        Checks.due("no home", -1, x.brother(0, 6));
        x.take(0);
        x.free(0);
        Checks.due("freed at 0", 0, x.brother(0, 5));
        Checks.due("home at 0", 0, x.brother(0, 6));
        Checks.due("the other one not", -1, x.brother(1, 6));
        x.delay(48);
        x.free(1);
        Checks.due("freed at 48", 48, x.brother(1, 5));
        Checks.due("home at 147", 147, x.brother(1, 6));
        Checks.due("as before", 0, x.brother(0, 6));
    }

    private static void gateIs(GlassHill x, int late, int... order) {
        Checks.due("lateness", late, x.gate(-1));
        for (int k = 0; k < order.length; k++) {
            Checks.due("gate(" + k + ")", order[k], x.gate(k));
        }
        for (int k : new int[] {order.length, order.length + 1, 7, 8, -2, Integer.MIN_VALUE, Integer.MAX_VALUE}) {
            Checks.due("gate(" + k + ")", -1, x.gate(k));
        }
    }

    // GATE: "one each hour, none ahead of HOME"; "hour of coming less DUE, 0 at least"; gate: "(k NONE; 0 without any FREED)"
    private static void gateOneEachHour() {
        gateIs(Checks.freed(), 0);
        gateIs(Checks.freed("way 0 due 0"), 0, 0);
        gateIs(Checks.freed("way 0 due 1"), 0, 0);
        gateIs(Checks.freed("way 1 due 0"), 1, 0);
        gateIs(Checks.freed("way 99 due 0"), 99, 0);
        gateIs(Checks.freed("way 0 due 999"), 0, 0);
        gateIs(Checks.freed("way 4 due 4", "way 4 due 5"), 0, 0, 1);
        gateIs(Checks.freed("way 4 due 5", "way 4 due 4"), 0, 1, 0);
        gateIs(Checks.freed("way 4 due 4", "way 4 due 4"), 1, 0, 1);
        gateIs(Checks.freed("way 4 due 4", "way 5 due 5"), 0, 0, 1);
        gateIs(Checks.freed("way 5 due 5", "way 4 due 4"), 0, 1, 0);
        // He who is home at 5 comes first, if the other one is due at 6 only; else the other one.
        gateIs(Checks.freed("way 5 due 5", "way 0 due 6"), 0, 0, 1);
        gateIs(Checks.freed("way 5 due 5", "way 0 due 5"), 0, 1, 0);
        GlassHill x = Checks.told("place;thing 0 worth 1 at 0;brother 0 lock 0 0 way 0 due 0;brother 0 lock 0 0 way 0 due 0;brother 0 lock 0 0 way 2 due 1");
        x.take(0);
        gateIs(x, 0);
        x.free(1);
        gateIs(x, 0, 1);
        x.delay(3);
        x.free(2);
        gateIs(x, 4, 1, 2);
        x.undo();
        x.free(0);
        // He is home at 3 and due at 0; if the other one waited for him, that one would come at 4.
        gateIs(x, 3, 1, 0);
    }

    // "who comes the k-th in the first such order (by numbers)"
    private static void gateFirstOrder() {
        gateIs(Checks.freed("way 0 due 9", "way 0 due 9", "way 0 due 9", "way 0 due 9", "way 0 due 9", "way 0 due 9", "way 0 due 9"),
            0, 0, 1, 2, 3, 4, 5, 6);
        gateIs(Checks.freed("way 0 due 6", "way 0 due 5", "way 0 due 4", "way 0 due 3", "way 0 due 2", "way 0 due 1", "way 0 due 0"),
            0, 6, 5, 4, 3, 2, 1, 0);
        gateIs(Checks.freed("way 0 due 5", "way 0 due 5", "way 0 due 5", "way 0 due 5", "way 0 due 5", "way 0 due 5", "way 0 due 5"),
            1, 0, 1, 2, 3, 4, 5, 6);
        gateIs(Checks.freed("way 0 due 3", "way 0 due 3", "way 0 due 1", "way 0 due 3"), 0, 0, 2, 1, 3);
        gateIs(Checks.freed("way 0 due 3", "way 0 due 3", "way 0 due 0", "way 0 due 3"), 0, 2, 0, 1, 3);
        // One is late by 9 whatever comes, so the others may be late by as much.
        gateIs(Checks.freed("way 0 due 0", "way 0 due 0", "way 9 due 0"), 9, 0, 1, 2);
    }

    private static void platesAre(GlassHill x, int many, int[] whose, int... bytes) {
        Checks.tape(x, bytes);
        Checks.due("plates(-1)", many, x.plates(-1));
        for (int k = 0; k < bytes.length / 2; k++) {
            Checks.tape(x, bytes);
            Checks.due("plates(" + k + ")", many == 0 ? -1 : whose[k], x.plates(k));
        }
    }

    // PLATES: "whose LOCK that SHAPE FITS and whose WAY modulo 24 is that HOUR at most"; "no one twice"
    private static void platesOfBrothers() {
        GlassHill x = Checks.told("place;brother 0 lock 15 5 way 23 due 0");
        platesAre(x, 1, new int[] {0}, 23, 5);
        platesAre(x, 0, null, 22, 5);
        platesAre(x, 0, null, 23, 4);
        platesAre(x, 0, null, 23, 5, 23, 5);
        GlassHill y = Checks.told("place;brother 0 lock 0 0 way 24 due 0;brother 0 lock 0 0 way 95 due 0;brother 0 lock 1 2 way 0 due 0;"
            + "brother 0 lock 0 0 way 96 due 0");
        platesAre(y, 2, new int[] {0}, 0, 15);
        platesAre(y, 2, new int[] {0}, 22, 15);
        platesAre(y, 3, new int[] {0}, 23, 15);
        platesAre(y, 2, new int[] {0, 3}, 0, 1, 0, 1);
        platesAre(y, 4, new int[] {0, 1}, 0, 1, 23, 1);
        platesAre(y, 4, new int[] {0, 3}, 23, 1, 0, 1);
        platesAre(y, 6, new int[] {0, 1, 3}, 23, 1, 23, 1, 23, 1);
        platesAre(y, 0, null, 23, 1, 23, 1, 23, 1, 23, 1);
        GlassHill z = Checks.told("place;thing 0 worth 1 at 0;brother 0 lock 0 0 way 0 due 0");
        z.take(0);
        z.free(0);
        platesAre(z, 1, new int[] {0}, 0, 0);
        // The first could be his, 0, but then nobody is left for the second; each by its own hour and shape.
        GlassHill v = Checks.told("place;brother 0 lock 1 1 way 5 due 0;brother 0 lock 3 1 way 9 due 0;brother 0 lock 4 4 way 7 due 0");
        platesAre(v, 1, new int[] {1, 0}, 9, 1, 5, 1);
        platesAre(v, 1, new int[] {0, 1}, 5, 1, 9, 1);
        platesAre(v, 1, new int[] {2, 1, 0}, 7, 4, 9, 1, 8, 3);
        platesAre(v, 1, new int[] {1, 2, 0}, 10, 1, 7, 4, 6, 3);
        platesAre(v, 0, null, 10, 1, 6, 4, 6, 3);
        GlassHill seven = Checks.told("place;" + Checks.times("brother 0 lock 0 0 way 0 due 0", 7));
        platesAre(seven, 5040, new int[] {0, 1, 2, 3, 4, 5, 6}, 0, 0, 0, 0, 0, 0, 0, 0, 0, 0, 0, 0, 0, 0);
    }

    private static void wrongPlates(GlassHill x, int k, int... bytes) {
        Checks.tape(x, bytes);
        Checks.illegalArgument("plates(" + k + ") of " + java.util.Arrays.toString(bytes), () -> x.plates(k));
        Checks.due("the tape is used up", false, x.end(1));
    }

    // plates: "(of each two bytes: the HOUR, the SHAPE; at most 7) ... IllegalArgumentException: the TAPE is not that,
    // or k is none of it"; "(0 to 23)"
    private static void platesOnTheTape() {
        GlassHill x = Checks.told("place;brother 0 lock 0 0 way 0 due 0");
        platesAre(x, 1, new int[] {0}, 23, 15);
        wrongPlates(x, -1, 24, 15);
        wrongPlates(x, -1, 23, 16);
        wrongPlates(x, -1, 255, 15);
        wrongPlates(x, -1, 23, 255);
        wrongPlates(x, -1, 23);
        wrongPlates(x, -1, 23, 15, 23);
        wrongPlates(x, -1, 23, 15, 24, 15);
        int[] seven = new int[14];
        platesAre(x, 0, null, seven);
        wrongPlates(x, -1, new int[16]);
        wrongPlates(x, -1, new int[15]);
        wrongPlates(x, -1, new int[400]);
        wrongPlates(x, 7, seven);
        wrongPlates(x, -2, seven);
        wrongPlates(x, 1, 23, 15);
        wrongPlates(x, -2, 23, 15);
        wrongPlates(x, Integer.MAX_VALUE, 23, 15);
        wrongPlates(x, Integer.MIN_VALUE, 23, 15);
        platesAre(x, 1, null);
        wrongPlates(x, 0);
        wrongPlates(x, -2);
        Checks.tape(x, 23, 15);
        x.plates(0);
        Checks.due("the tape is used up", false, x.end(1));
    }

    private static void locksAre(int many, int least, int... bytes) {
        GlassHill x = new GlassHill();
        Checks.tape(x, bytes);
        Checks.due("locks of " + java.util.Arrays.toString(bytes), many, x.locks(false));
        Checks.due("the tape is used up", false, x.end(1));
        Checks.tape(x, bytes);
        Checks.due("the one of " + java.util.Arrays.toString(bytes), least, x.locks(true));
        Checks.due("the tape is used up", false, x.end(1));
    }

    // TELLING LOCKS: "all LOCKS (VALUE within MASK: 81) that fit: how many; the one with the fewest bits in the MASK
    // (of several the least MASK, then VALUE): 16 times the MASK and the VALUE; none"
    private static void locksThatFit() {
        locksAre(81, 0x00);
        locksAre(16, 0x00, 0, 1);
        locksAre(16, 0x00, 15, 1);
        locksAre(65, 0x11, 0, 0);
        locksAre(65, 0x10, 15, 0);
        locksAre(65, 0x10, 1, 0);
        locksAre(65, 0x11, 14, 0);
        // All shapes: only the lock that all fit; all but one: only the locks that this one alone fits not.
        int[] all = new int[32];
        for (int shape = 0; shape < 16; shape++) {
            all[2 * shape] = shape;
            all[2 * shape + 1] = 1;
        }
        locksAre(1, 0x00, all);
        all[31] = 0;
        locksAre(0, -1, all);
        java.util.Arrays.fill(all, 0);
        for (int shape = 0; shape < 16; shape++) {
            all[2 * shape] = shape;
        }
        locksAre(0, -1, all);
        all[31] = 1;
        locksAre(1, 0xff, all);
        all[31] = 0;
        all[1] = 1;
        locksAre(1, 0xf0, all);
        // 3 passed and 0 did not: bit 0 or bit 1 or both, the least mask; 12 and 0: bit 2.
        locksAre(12, 0x11, 3, 1, 0, 0);
        locksAre(12, 0x44, 12, 1, 0, 0);
        // 3 passed, 1 and 2 did not: two bits.
        locksAre(4, 0x33, 3, 1, 1, 0, 2, 0);
        locksAre(0, -1, 3, 1, 3, 0);
        locksAre(16, 0x00, 3, 1, 3, 1);
    }

    private static void wrongLocks(int... bytes) {
        GlassHill x = new GlassHill();
        for (boolean least : new boolean[] {false, true}) {
            Checks.tape(x, bytes);
            Checks.illegalArgument("locks of " + java.util.Arrays.toString(bytes), () -> x.locks(least));
            Checks.due("the tape is used up", false, x.end(1));
        }
    }

    // locks: "(of each two bytes: the SHAPE, 1 passed or 0 not) ... IllegalArgumentException: the TAPE is not that
    // (none may be told)"
    private static void locksOnTheTape() {
        locksAre(16, 0x00, 15, 1);
        wrongLocks(16, 1);
        wrongLocks(255, 1);
        locksAre(65, 0x11, 0, 0);
        wrongLocks(0, 2);
        wrongLocks(0, 255);
        wrongLocks(0);
        wrongLocks(0, 1, 0);
        wrongLocks(0, 1, 16, 1);
        wrongLocks(0, 1, 0, 2);
        int[] most = new int[400];
        for (int i = 1; i < 400; i += 2) {
            most[i] = 1;
        }
        locksAre(16, 0x00, most);
        most[398] = 15;
        locksAre(1, 0x00, most);
        most[399] = 2;
        wrongLocks(most);
        wrongLocks(new int[399]);
    }

    // shirts: "N hours (1 to 64), K hours (1 to 9) each"; "IllegalArgumentException: N or K are none"
    private static void shirtsHours() {
        GlassHill x = new GlassHill();
        for (boolean dumb : new boolean[] {false, true}) {
            for (int n = 1; n <= 64; n++) {
                for (int k = 1; k <= 9; k += n == 1 || n == 64 ? 1 : 8) {
                    Checks.due("shirts(" + n + ", " + k + ")", n / k, x.shirts(n, k, 0, dumb));
                }
            }
            for (int bad : new int[] {0, 65, -1, Integer.MIN_VALUE, Integer.MAX_VALUE}) {
                Checks.illegalArgument("N " + bad, () -> x.shirts(bad, 1, 0, dumb));
                Checks.illegalArgument("N " + bad, () -> x.shirts(bad, 9, -1, dumb));
            }
            for (int bad : new int[] {0, 10, -1, Integer.MIN_VALUE, Integer.MAX_VALUE}) {
                Checks.illegalArgument("K " + bad, () -> x.shirts(1, bad, 0, dumb));
                Checks.illegalArgument("K " + bad, () -> x.shirts(64, bad, -1, dumb));
            }
        }
    }

    // "in some hours (bits of a long, bit 0 the first) she must speak, by which a shirt that is begun and not done is
    // undone; in such an hour nothing is sewn"; "of none they count for nothing"
    private static void shirtsUndone() {
        GlassHill x = new GlassHill();
        Checks.due("the first hour", 63, x.shirts(64, 1, 1, false));
        Checks.due("the last hour", 63, x.shirts(64, 1, 1L << 63, false));
        Checks.due("all hours", 0, x.shirts(64, 1, -1, false));
        Checks.due("hours that are none", 63, x.shirts(63, 1, 1L << 63, false));
        Checks.due("hours that are none", 1, x.shirts(1, 1, -2, false));
        Checks.due("the one hour", 0, x.shirts(1, 1, 1, false));
        Checks.due("begun and not done", 0, x.shirts(5, 3, 1 << 2, false));
        Checks.due("done just ahead", 1, x.shirts(5, 3, 1 << 3, false));
        Checks.due("just enough behind", 1, x.shirts(6, 3, 1 << 2, false));
        Checks.due("both sides", 2, x.shirts(7, 3, 1 << 3, false));
        Checks.due("rested, so that nothing is begun in vain", 1, x.shirts(8, 5, 1 << 2, false));
        Checks.due("the 33rd hour", 14, x.shirts(64, 4, 1L << 32 | 1L << 5, false));
    }

    // DUMB: "likewise, if in one of these hours, whichever is best, she need not speak"
    private static void shirtsDumb() {
        GlassHill x = new GlassHill();
        Checks.due("none to be dumb in", 2, x.shirts(7, 3, 0, true));
        Checks.due("the only one", 2, x.shirts(6, 3, 1 << 2, true));
        Checks.due("the first", 1, x.shirts(3, 3, 1, true));
        Checks.due("the last", 1, x.shirts(3, 3, 1 << 2, true));
        Checks.due("only one of two", 0, x.shirts(3, 3, 1 | 1 << 2, true));
        Checks.due("the better one", 1, x.shirts(6, 4, 1 << 1 | 1 << 5, true));
        Checks.due("the 64th", 64, x.shirts(64, 1, 1L << 63, true));
        Checks.due("all but one", 1, x.shirts(64, 1, -1, true));
        Checks.due("hours that are none do not help", 0, x.shirts(2, 2, 3L | 1L << 2, true));
        Checks.due("nor do they harm", 1, x.shirts(2, 2, 1L | -1L << 2, true));
    }

    // SIGN: "of all PLACES from which it is less FAR to his than to that of each other BROTHER (one that cannot be
    // come to is the farthest) the one least FAR from his; of several the least; none"
    private static void signs() {
        GlassHill x = Checks.told(Checks.times("place", 10), "road 0 9 long 1;road 9 8 long 1;brother 9 lock 0 0 way 0 due 0");
        Checks.due("an only brother", 9, x.sign(0));
        Checks.tale(x, "brother 0 lock 0 0 way 0 due 0;brother 8 lock 0 0 way 0 due 0;brother 5 lock 0 0 way 0 due 0");
        Checks.due("between two others", 9, x.sign(0));
        Checks.due("at 0", 0, x.sign(1));
        Checks.due("at 8", 8, x.sign(2));
        Checks.due("no road leads to him", 5, x.sign(3));
        Checks.tale(x, "brother 5 lock 0 0 way 0 due 0;brother 0 lock 0 0 way 0 due 0;brother 3 lock 0 0 way 0 due 0");
        Checks.due("not nearer to the one than to the other", -1, x.sign(3));
        Checks.due("nor to the other", -1, x.sign(4));
        Checks.due("nor where roads are", -1, x.sign(1));
        Checks.due("the last brother", 3, x.sign(6));
        Checks.due("as before", 9, x.sign(0));
    }

    // count: "NONE for another what"; "6 LINES of THE LAW (NONE without one)"
    private static void counts() {
        GlassHill x = Checks.told(Checks.times("place", 10), Checks.times("road 0 9 long 9", 14), "road 0 9 long 1;road 0 9 long 1;"
            + "keeper 0 lock 0 0 takes;keeper 9 lock 0 0 takes has 0 worth 99;" + Checks.times("thing 0 worth 99 at 0", 9));
        Checks.tale(x, Checks.times("brother 9 lock 0 0 way 0 due 0", 7));
        int[] first = {10, 10, 16, 7, 2, 4, -1, 0, 0, 0, 0, 0, 0};
        for (int what = 0; what < 13; what++) {
            Checks.due("count(" + what + ")", first[what], x.count(what));
        }
        x.take(1);
        x.take(2);
        x.take(9);
        x.pay(9);
        x.go(15);
        x.pay(1);
        x.free(6);
        x.free(0);
        int[] then = {10, 10, 16, 7, 2, 4, -1, 1, 1 + 512, 1 + 64, 2 + 512, 198, 8};
        for (int what = 0; what < 13; what++) {
            Checks.due("count(" + what + ")", then[what], x.count(what));
        }
        Checks.law(x, "");
        Checks.due("a law without a line", 0, x.count(6));
        Checks.law(x, Checks.times("bar", 12));
        Checks.due("twelve", 12, x.count(6));
        Checks.due("acts", 0, x.count(12));
        Checks.due("another what", -1, x.count(13));
        Checks.due("another what", -1, x.count(-1));
    }
}
