import java.util.Arrays;
import java.util.NoSuchElementException;

/**
 * A glass hill out of which a girl is to let her brothers. The promises are numbered in DOC.md; the
 * words in capitals (PLACE, KEEPER, LOCK, ...) are that document's terms.
 *
 * Every set of PLACES, THINGS or BROTHERS is held as bits of an int.
 */
public final class GlassHill {
    public static final int NONE = -1;

    private static final int PLACES = 10;
    private static final int THINGS = 10;
    private static final int ROADS = 16;
    private static final int BROTHERS = 7;
    private static final int TEXTS = 12;
    private static final int ROOM = 4;
    private static final int SHAPES = 16;
    private static final int DAY_HOURS = 24;
    private static final int LONGEST_DELAY = 48;
    private static final int LATEST_TIME = 100000;
    private static final int MOST_HOURS_SEWN = 64;
    private static final int MOST_HOURS_A_SHIRT = 9;
    private static final int TOO_MANY = -3;

    private final Tape tape;
    private final Land land;
    private final Law statute;
    private final Journey journey;
    private final Land draftLand;
    private final Law draftLaw;
    private final Journey draftJourney;
    private final Land imageLand;
    private final Law imageLaw;
    private final Journey imageJourney;
    private boolean imageKept;
    private final TaleReader taleReader;
    private final LawReader lawReader;
    private final Memory memory;
    private final Steps steps;
    private final Ways ways;
    private final Riddles riddles;
    // Its rows are by far the largest, so they are made only for an object that is asked for them.
    private Search search;
    private int changes;

    public GlassHill() {
        tape = new Tape();
        land = new Land();
        statute = new Law();
        journey = new Journey();
        draftLand = new Land();
        draftLaw = new Law();
        draftJourney = new Journey();
        imageLand = new Land();
        imageLaw = new Law();
        imageJourney = new Journey();
        imageKept = false;
        taleReader = new TaleReader(tape, draftLand, draftJourney);
        lawReader = new LawReader(tape, draftLaw);
        memory = new Memory();
        steps = new Steps(land, statute);
        ways = new Ways(land);
        riddles = new Riddles(land, journey, tape);
        search = null;
        changes = 0;
    }

    // ---- the TAPE and the texts ----

    public int feed(int a, int b, int c, int d, int e) {
        if (tape.size + Tape.FED > Tape.LIMIT) {
            return NONE;
        }
        tape.append(a);
        tape.append(b);
        tape.append(c);
        tape.append(d);
        tape.append(e);
        return tape.size;
    }

    public boolean end(int n) {
        if (n < 0 || n > tape.size) {
            return false;
        }
        tape.size = n;
        return true;
    }

    public int tale() throws IllegalArgumentException, UnsupportedOperationException {
        draftLand.copyFrom(land);
        draftJourney.copyFrom(journey);
        if (!taleReader.readText()) {
            throw new IllegalArgumentException("the text is wrong");
        }
        if (land.texts >= TEXTS) {
            throw new UnsupportedOperationException("there are 12 texts");
        }
        draftLand.texts++;
        land.copyFrom(draftLand);
        journey.copyFrom(draftJourney);
        forgetActs();
        return land.texts;
    }

    public int law() throws IllegalArgumentException {
        if (!lawReader.readText()) {
            throw new IllegalArgumentException("the text is wrong");
        }
        statute.copyFrom(draftLaw);
        forgetActs();
        return statute.lines;
    }

    public int fault() {
        return tape.wrong;
    }

    // ---- what there is ----

    public int place(int place, int what) throws IndexOutOfBoundsException, NoSuchElementException {
        checkPlace(place);
        boolean kept = land.hasKeeper(place);
        switch (what) {
            case 0:
                return kept ? 1 : 0;
            case 1:
                return kept ? land.mask[place] : 0;
            case 2:
                return kept ? land.value[place] : 0;
            case 3:
                return kept ? land.eatsFrom[place] : NONE;
            case 4:
                return kept ? land.eatsTo[place] : NONE;
            case 5:
                return bit(land.takers, place);
            case 6:
                return giftStillHad(place);
            case 7:
                return bit(journey.passed, place);
            case 8:
                return journey.lying(place);
            default:
                throw new NoSuchElementException("no such what");
        }
    }

    private int giftStillHad(int place) {
        int gift = land.hasKeeper(place) ? land.gift[place] : NONE;
        return gift != NONE && bit(journey.had, gift) == 1 ? gift : NONE;
    }

    public int thing(int thing, int what) throws IndexOutOfBoundsException, NoSuchElementException {
        checkThing(thing);
        switch (what) {
            case 0:
                return land.shape[thing];
            case 1:
                return land.worth[thing];
            case 2:
                return journey.lot(thing);
            case 3:
                return journey.lot(thing) <= Journey.HAD ? journey.spot[thing] : NONE;
            default:
                throw new NoSuchElementException("no such what");
        }
    }

    public int road(int road, int what) throws IndexOutOfBoundsException, NoSuchElementException {
        checkRoad(road);
        switch (what) {
            case 0:
                return land.ends[2 * road];
            case 1:
                return land.ends[2 * road + 1];
            case 2:
                return land.hours[road];
            case 3:
                return land.chance[road];
            default:
                throw new NoSuchElementException("no such what");
        }
    }

    public int brother(int brother, int what) throws IndexOutOfBoundsException, NoSuchElementException {
        checkBrother(brother);
        switch (what) {
            case 0:
                return land.stay[brother];
            case 1:
                return land.mask[PLACES + brother];
            case 2:
                return land.value[PLACES + brother];
            case 3:
                return land.way[brother];
            case 4:
                return land.due[brother];
            case 5:
                return bit(journey.freed, brother) == 1 ? journey.freedAt[brother] : NONE;
            case 6:
                return bit(journey.freed, brother) == 1 ? journey.freedAt[brother] + land.way[brother] : NONE;
            default:
                throw new NoSuchElementException("no such what");
        }
    }

    public int girl(int what) throws NoSuchElementException, IllegalStateException {
        if (what < 0 || what > 4) {
            throw new NoSuchElementException("no such what");
        }
        checkAnyPlace();
        switch (what) {
            case 0:
                return journey.at;
            case 1:
                return journey.time;
            case 2:
                return journey.came;
            case 3:
                return journey.carried;
            default:
                return land.worthOf(journey.carried);
        }
    }

    public int rule(int road, int what)
            throws IndexOutOfBoundsException, IllegalStateException, NoSuchElementException {
        checkRoad(road);
        if (land.otherEnd(road, journey.at) == NONE) {
            throw new IllegalStateException("it does not begin there");
        }
        if (what < 0 || what > 2) {
            throw new NoSuchElementException("no such what");
        }
        if (what == 2) {
            return arrivalNow(road) == NONE ? 0 : 1;
        }
        steps.judge(road, journey.at, journey.carried, journey.time);
        if (what == 0) {
            return steps.barred ? 1 : 0;
        }
        return steps.hours;
    }

    public boolean fits(int thing, int place) throws IndexOutOfBoundsException, IllegalStateException {
        checkThing(thing);
        checkPlace(place);
        if (!land.hasKeeper(place)) {
            throw new IllegalStateException("there is no KEEPER");
        }
        return land.opens(land.shape[thing], place);
    }

    public int log(int k, int what) throws NoSuchElementException {
        if (what < 0 || what > 2) {
            throw new NoSuchElementException("no such what");
        }
        if (k < 0 || k >= journey.logged || k >= PLACES) {
            return NONE;
        }
        switch (what) {
            case 0:
                return journey.logPlace[k];
            case 1:
                return journey.logThing[k];
            default:
                return journey.logTime[k];
        }
    }

    public int count(int what) {
        switch (what) {
            case 0:
                return land.places;
            case 1:
                return land.things;
            case 2:
                return land.roads;
            case 3:
                return land.brothers;
            case 4:
                return Integer.bitCount(land.keepers);
            case 5:
                return land.texts;
            case 6:
                return statute.lines;
            case 7:
                return journey.time;
            case 8:
                return journey.passed;
            case 9:
                return journey.freed;
            case 10:
                return journey.lost;
            case 11:
                return land.worthOf(journey.lost);
            case 12:
                return memory.size;
            default:
                return NONE;
        }
    }

    // ---- ACTS ----

    public int go(int road) throws IndexOutOfBoundsException, IllegalStateException {
        checkRoad(road);
        int then = arrivalNow(road);
        if (then == NONE) {
            throw new IllegalStateException("she cannot GO");
        }
        rememberAct();
        journey.at = land.otherEnd(road, journey.at);
        journey.time = then;
        journey.came = road;
        return then;
    }

    public int delay(int n) throws IllegalArgumentException, IllegalStateException {
        if (n < 1 || n > LONGEST_DELAY) {
            throw new IllegalArgumentException("not 1 to 48 hours");
        }
        checkAnyPlace();
        int waited = 0;
        while (waited < n && !land.eatsAt(journey.at, journey.time + waited + 1)) {
            waited++;
        }
        if (waited == 0) {
            throw new IllegalStateException("she cannot WAIT");
        }
        rememberAct();
        journey.time += waited;
        return waited;
    }

    public int pay(int thing) throws IndexOutOfBoundsException, IllegalStateException {
        checkThing(thing);
        int place = journey.at;
        if (!land.isHeldBy(place, journey.passed) || bit(journey.carried, thing) == 0
                || !land.opens(land.shape[thing], place)) {
            throw new IllegalStateException("she cannot PAY");
        }
        rememberAct();
        journey.letPass(place, thing);
        if (bit(land.takers, place) == 1) {
            journey.lose(thing);
        }
        int gift = land.gift[place];
        if (gift != NONE) {
            journey.receive(gift);
        }
        return gift;
    }

    public int take(int thing) throws IndexOutOfBoundsException, IllegalStateException {
        checkThing(thing);
        if (bit(journey.lying(journey.at), thing) == 0 || !hasRoom(journey.carried)) {
            throw new IllegalStateException("she cannot TAKE it");
        }
        rememberAct();
        journey.carried |= 1 << thing;
        return Integer.bitCount(journey.carried);
    }

    public int lay(int thing) throws IndexOutOfBoundsException, IllegalStateException {
        checkThing(thing);
        if (bit(journey.carried, thing) == 0) {
            throw new IllegalStateException("she does not carry it");
        }
        rememberAct();
        journey.carried &= ~(1 << thing);
        journey.spot[thing] = journey.at;
        return Integer.bitCount(journey.carried);
    }

    public int free(int brother) throws IndexOutOfBoundsException, IllegalStateException {
        checkBrother(brother);
        if (land.stay[brother] != journey.at || bit(journey.freed, brother) == 1
                || (land.openers(PLACES + brother) & journey.carried) == 0) {
            throw new IllegalStateException("she cannot FREE him");
        }
        rememberAct();
        journey.freed |= 1 << brother;
        journey.freedAt[brother] = journey.time;
        return Integer.bitCount(journey.freed);
    }

    public boolean undo() {
        if (!memory.recall(journey)) {
            return false;
        }
        changes++;
        return true;
    }

    public void image() {
        imageLand.copyFrom(land);
        imageLaw.copyFrom(statute);
        imageJourney.copyFrom(journey);
        imageKept = true;
    }

    public boolean back() {
        if (!imageKept) {
            return false;
        }
        land.copyFrom(imageLand);
        statute.copyFrom(imageLaw);
        journey.copyFrom(imageJourney);
        forgetActs();
        return true;
    }

    // ---- ALL that she can come to ----

    public int soonest(int brothers) throws IllegalStateException {
        checkAnyPlace();
        Search all = searchFromNow();
        return all.tooMany ? TOO_MANY : all.fewestHoursToFree(brothers & land.allBrothers());
    }

    public int reached(int place) throws IndexOutOfBoundsException {
        checkPlace(place);
        Search all = searchFromNow();
        return all.tooMany ? TOO_MANY : all.fewestHoursTo(place);
    }

    public int spared(int brothers) throws IllegalStateException {
        checkAnyPlace();
        Search all = searchFromNow();
        return all.tooMany ? TOO_MANY : all.leastLossToFree(brothers & land.allBrothers());
    }

    public int locked(boolean states) throws IllegalStateException {
        checkAnyPlace();
        Search all = searchFromNow();
        if (all.tooMany) {
            return TOO_MANY;
        }
        return states ? all.size : land.keepers & ~all.everPassed();
    }

    private Search searchFromNow() {
        if (search == null) {
            search = new Search(land, journey, steps);
        }
        search.run(changes);
        return search;
    }

    // ---- what stands in for what, and what is needed ----

    public int stands(int thing, boolean least) throws IndexOutOfBoundsException {
        checkThing(thing);
        int others = land.allThings() & ~journey.lost & ~(1 << thing);
        for (int lock = 0; lock < PLACES + BROTHERS; lock++) {
            if (isShut(lock) && land.opens(land.shape[thing], lock)) {
                others &= land.openers(lock);
            }
        }
        return least ? land.cheapest(others) : others;
    }

    public int needed() {
        int locks = 0;
        for (int lock = 0; lock < PLACES + BROTHERS; lock++) {
            if (isShut(lock) && (land.openers(lock) & ~journey.lost) == 0) {
                locks |= 1 << lock;
            }
        }
        return locks;
    }

    private boolean isShut(int lock) {
        if (lock < PLACES) {
            return land.isHeldBy(lock, journey.passed);
        }
        int brother = lock - PLACES;
        return brother < land.brothers && bit(journey.freed, brother) == 0;
    }

    // ---- ways by LONG and CHANCE alone ----

    public int far(int from, int to) throws IndexOutOfBoundsException {
        checkPlace(from);
        checkPlace(to);
        return ways.fewestHours(from, to);
    }

    public int turnBack(int time) throws IllegalArgumentException, IllegalStateException {
        if (time < 0 || time > LATEST_TIME) {
            throw new IllegalArgumentException("not 0 to 100000");
        }
        checkAnyPlace();
        int hours = ways.fewestHours(journey.at, 0);
        if (hours == NONE || time - hours < journey.time) {
            return NONE;
        }
        return time - hours;
    }

    public int meet(int one, int other, boolean where) throws IndexOutOfBoundsException {
        checkPlace(one);
        checkPlace(other);
        int place = ways.meetingPlace(one, other);
        return where || place == NONE ? place : ways.hoursToBothEnds(place);
    }

    public int surest(int from, int to) throws IndexOutOfBoundsException {
        checkPlace(from);
        checkPlace(to);
        return ways.greatestChance(from, to);
    }

    public int sign(int brother) throws IndexOutOfBoundsException {
        checkBrother(brother);
        return ways.placeFoundFirst(brother);
    }

    // ---- riddles ----

    public int gate(int k) {
        return riddles.gateAnswer(k);
    }

    public int plates(int k) throws IllegalArgumentException {
        int told = tape.useUpPairs(DAY_HOURS, SHAPES);
        if (told == NONE || told > BROTHERS) {
            throw new IllegalArgumentException("the TAPE tells no PLATES");
        }
        if (k < NONE || k >= told) {
            throw new IllegalArgumentException("there is no such plate");
        }
        return riddles.platesAnswer(told, k);
    }

    public int locks(boolean least) throws IllegalArgumentException {
        int told = tape.useUpPairs(SHAPES, 2);
        if (told == NONE) {
            throw new IllegalArgumentException("the TAPE tells no LOCKS");
        }
        return riddles.locksAnswer(told, least);
    }

    public int shirts(int n, int k, long speaks, boolean dumb) throws IllegalArgumentException {
        if (n < 1 || n > MOST_HOURS_SEWN || k < 1 || k > MOST_HOURS_A_SHIRT) {
            throw new IllegalArgumentException("no such hours");
        }
        return dumb ? Riddles.mostShirtsDumb(n, k, speaks) : Riddles.mostShirts(n, k, speaks);
    }

    // ---- helpers of the face ----

    private int arrivalNow(int road) {
        return steps.arrival(road, journey.at, journey.came, journey.passed, journey.carried, journey.time);
    }

    private void rememberAct() {
        memory.keep(journey);
        changes++;
    }

    private void forgetActs() {
        memory.size = 0;
        changes++;
    }

    private void checkPlace(int place) {
        if (place < 0 || place >= land.places || place >= PLACES) {
            throw new IndexOutOfBoundsException("no such PLACE");
        }
    }

    private void checkThing(int thing) {
        if (thing < 0 || thing >= land.things || thing >= THINGS) {
            throw new IndexOutOfBoundsException("no such THING");
        }
    }

    private void checkRoad(int road) {
        if (road < 0 || road >= land.roads || road >= ROADS) {
            throw new IndexOutOfBoundsException("no such ROAD");
        }
    }

    private void checkBrother(int brother) {
        if (brother < 0 || brother >= land.brothers || brother >= BROTHERS) {
            throw new IndexOutOfBoundsException("no such BROTHER");
        }
    }

    private void checkAnyPlace() {
        if (land.places == 0) {
            throw new IllegalStateException("there is no PLACE");
        }
    }

    private static int bit(int set, int number) {
        return (set >>> number) & 1;
    }

    private static boolean hasRoom(int carried) {
        return Integer.bitCount(carried) < ROOM;
    }

    /**
     * The TAPE, and the reading of a text on it, token by token. The first wrong byte stays; behind it
     * nothing more is found, so that readers need not look for it after every token.
     */
    private static final class Tape {
        static final int LIMIT = 400;
        static final int FED = 20;
        private static final int MOST_DIGITS = 3;

        final int[] bytes = new int[LIMIT];
        int size = 0;
        int wrong = NONE;
        /** Where the latest token that was read begins. */
        int begin = 0;
        private int next = 0;

        void append(int number) {
            for (int shift = 24; shift >= 0; shift -= 8) {
                if (size < LIMIT) {
                    bytes[size] = (number >>> shift) & 255;
                    size++;
                }
            }
        }

        void startText() {
            next = 0;
            begin = 0;
            wrong = NONE;
        }

        /** Whether the whole text was right. */
        boolean endText() {
            if (!isAtEnd()) {
                fail();
            }
            size = 0;
            return wrong == NONE;
        }

        boolean isAtEnd() {
            skipBlanks();
            return next >= size;
        }

        void fail() {
            skipBlanks();
            failAt(next);
        }

        void failAt(int index) {
            if (wrong == NONE) {
                wrong = index;
            }
        }

        boolean tookWord(String word) {
            if (wrong != NONE) {
                return false;
            }
            skipBlanks();
            int length = 0;
            while (next + length < size && isWithin(bytes[next + length], 'a', 'z')) {
                length++;
            }
            if (length != word.length()) {
                return false;
            }
            for (int i = 0; i < length; i++) {
                if (bytes[next + i] != word.charAt(i)) {
                    return false;
                }
            }
            begin = next;
            next += length;
            return true;
        }

        boolean tookMark(char mark) {
            skipBlanks();
            if (wrong != NONE || next >= size || bytes[next] != mark) {
                return false;
            }
            begin = next;
            next++;
            return true;
        }

        void needWord(String word) {
            if (!tookWord(word)) {
                fail();
            }
        }

        /** The number that comes, or low, if there is none within these bounds, which is wrong then. */
        int needNumber(int low, int high) {
            skipBlanks();
            int length = 0;
            int number = 0;
            while (next + length < size && isWithin(bytes[next + length], '0', '9')) {
                if (length < MOST_DIGITS) {
                    number = 10 * number + bytes[next + length] - '0';
                }
                length++;
            }
            if (wrong != NONE || length == 0 || length > MOST_DIGITS || number < low || number > high) {
                failAt(next);
                return low;
            }
            begin = next;
            next += length;
            return number;
        }

        boolean nextIsDigit() {
            skipBlanks();
            return wrong == NONE && next < size && isWithin(bytes[next], '0', '9');
        }

        /** Uses the TAPE up: of how many pairs it is, each below these bounds; NONE, if it is not that. */
        int useUpPairs(int firstBound, int secondBound) {
            int length = size;
            size = 0;
            if (length % 2 != 0) {
                return NONE;
            }
            for (int i = 0; i + 1 < length; i += 2) {
                if (bytes[i] >= firstBound || bytes[i + 1] >= secondBound) {
                    return NONE;
                }
            }
            return length / 2;
        }

        private void skipBlanks() {
            while (next < size && bytes[next] == ' ') {
                next++;
            }
        }

        private static boolean isWithin(int sign, char first, char last) {
            return sign >= first && sign <= last;
        }
    }

    /** What THE TALE tells, which only grows. LOCKS: of KEEPERS by PLACE, behind them of BROTHERS. */
    private static final class Land {
        int places = 0;
        int things = 0;
        int roads = 0;
        int brothers = 0;
        int texts = 0;
        int keepers = 0;
        int takers = 0;
        final int[] mask = new int[PLACES + BROTHERS];
        final int[] value = new int[PLACES + BROTHERS];
        final int[] eatsFrom = new int[PLACES];
        final int[] eatsTo = new int[PLACES];
        final int[] gift = new int[PLACES];
        final int[] shape = new int[THINGS];
        final int[] worth = new int[THINGS];
        final int[] ends = new int[2 * ROADS];
        final int[] hours = new int[ROADS];
        final int[] chance = new int[ROADS];
        final int[] stay = new int[BROTHERS];
        final int[] way = new int[BROTHERS];
        final int[] due = new int[BROTHERS];

        void copyFrom(Land other) {
            places = other.places;
            things = other.things;
            roads = other.roads;
            brothers = other.brothers;
            texts = other.texts;
            keepers = other.keepers;
            takers = other.takers;
            copyRow(other.mask, mask);
            copyRow(other.value, value);
            copyRow(other.eatsFrom, eatsFrom);
            copyRow(other.eatsTo, eatsTo);
            copyRow(other.gift, gift);
            copyRow(other.shape, shape);
            copyRow(other.worth, worth);
            copyRow(other.ends, ends);
            copyRow(other.hours, hours);
            copyRow(other.chance, chance);
            copyRow(other.stay, stay);
            copyRow(other.way, way);
            copyRow(other.due, due);
        }

        static void copyRow(int[] from, int[] to) {
            System.arraycopy(from, 0, to, 0, Math.min(from.length, to.length));
        }

        int allThings() {
            return (1 << things) - 1;
        }

        int allBrothers() {
            return (1 << brothers) - 1;
        }

        boolean hasKeeper(int place) {
            return bit(keepers, place) == 1;
        }

        /** Whether a KEEPER at this PLACE has not let her PASS, if those in the set have. */
        boolean isHeldBy(int place, int passed) {
            return bit(keepers & ~passed, place) == 1;
        }

        boolean eatsAt(int place, int time) {
            if (!hasKeeper(place) || eatsFrom[place] == NONE) {
                return false;
            }
            int hour = time % DAY_HOURS;
            return hour >= eatsFrom[place] && hour <= eatsTo[place];
        }

        boolean opens(int someShape, int lock) {
            return (someShape & mask[lock]) == value[lock];
        }

        /** The THINGS that FIT a LOCK. */
        int openers(int lock) {
            int set = 0;
            for (int t = 0; t < things && t < THINGS; t++) {
                if (opens(shape[t], lock)) {
                    set |= 1 << t;
                }
            }
            return set;
        }

        int worthOf(int set) {
            int sum = 0;
            for (int t = 0; t < things && t < THINGS; t++) {
                if (bit(set, t) == 1) {
                    sum += worth[t];
                }
            }
            return sum;
        }

        /** Of a set of THINGS the one of least WORTH, of several the least number; NONE of none. */
        int cheapest(int set) {
            int best = NONE;
            for (int t = 0; t < things && t < THINGS; t++) {
                if (bit(set, t) == 1 && (best == NONE || worth[t] < worth[best])) {
                    best = t;
                }
            }
            return best;
        }

        /** Where a ROAD leads to from a PLACE; NONE, if it does not begin there. */
        int otherEnd(int road, int from) {
            if (ends[2 * road] == from) {
                return ends[2 * road + 1];
            }
            return ends[2 * road + 1] == from ? ends[2 * road] : NONE;
        }
    }

    /** Reads a text of THE TALE into a draft, so that of a wrong one nothing stays. */
    private static final class TaleReader {
        private static final int MOST_LINES = 14;
        private static final int MOST_FOUR_BITS = 15;

        private final Tape tape;
        private final Land land;
        private final Journey journey;

        TaleReader(Tape tape, Land land, Journey journey) {
            this.tape = tape;
            this.land = land;
            this.journey = journey;
        }

        /** Uses the TAPE up: whether the text was right. */
        boolean readText() {
            tape.startText();
            boolean more = !tape.isAtEnd();
            for (int line = 0; line <= MOST_LINES && more; line++) {
                if (line == MOST_LINES) {
                    tape.fail();
                } else {
                    readLine();
                }
                more = tape.tookMark(';');
            }
            return tape.endText();
        }

        private void readLine() {
            if (tape.tookWord("place")) {
                readPlace();
            } else if (tape.tookWord("thing")) {
                readThing();
            } else if (tape.tookWord("road")) {
                readRoad();
            } else if (tape.tookWord("keeper")) {
                readKeeper();
            } else if (tape.tookWord("brother")) {
                readBrother();
            } else {
                tape.fail();
            }
        }

        private void readPlace() {
            if (land.places >= PLACES) {
                tape.failAt(tape.begin);
                return;
            }
            land.places++;
        }

        private void readThing() {
            int thing = readNewThing();
            tape.needWord("at");
            int place = readPlaceNumber();
            if (thing != NONE) {
                journey.spot[thing] = place;
            }
        }

        private void readRoad() {
            if (land.roads >= ROADS) {
                tape.failAt(tape.begin);
                return;
            }
            int road = land.roads;
            int one = readPlaceNumber();
            int other = readPlaceNumber();
            if (one == other) {
                tape.failAt(tape.begin);
            }
            tape.needWord("long");
            land.ends[2 * road] = one;
            land.ends[2 * road + 1] = other;
            land.hours[road] = tape.needNumber(1, 9);
            land.chance[road] = tape.tookWord("chance") ? tape.needNumber(1, 100) : 100;
            land.roads++;
        }

        private void readKeeper() {
            int place = readPlaceNumber();
            if (land.hasKeeper(place)) {
                tape.failAt(tape.begin);
            }
            readLock(place);
            readMeal(place);
            if (tape.tookWord("takes")) {
                land.takers |= 1 << place;
            }
            int gift = tape.tookWord("has") ? readNewThing() : NONE;
            if (gift != NONE) {
                journey.spot[gift] = place;
                journey.had |= 1 << gift;
            }
            land.gift[place] = gift;
            land.keepers |= 1 << place;
        }

        private void readMeal(int place) {
            land.eatsFrom[place] = NONE;
            land.eatsTo[place] = NONE;
            if (tape.tookWord("eats")) {
                int from = tape.needNumber(0, DAY_HOURS - 1);
                tape.needWord("to");
                land.eatsFrom[place] = from;
                land.eatsTo[place] = tape.needNumber(from, DAY_HOURS - 1);
            }
        }

        private void readBrother() {
            if (land.brothers >= BROTHERS) {
                tape.failAt(tape.begin);
                return;
            }
            int brother = land.brothers;
            land.stay[brother] = readPlaceNumber();
            readLock(PLACES + brother);
            tape.needWord("way");
            land.way[brother] = tape.needNumber(0, 99);
            tape.needWord("due");
            land.due[brother] = tape.needNumber(0, 999);
            land.brothers++;
        }

        /** A THING more; NONE, if it is one too many, which is wrong at the word that was read last. */
        private int readNewThing() {
            if (land.things >= THINGS) {
                tape.failAt(tape.begin);
                return NONE;
            }
            int thing = land.things;
            land.things++;
            land.shape[thing] = tape.needNumber(0, MOST_FOUR_BITS);
            tape.needWord("worth");
            land.worth[thing] = tape.needNumber(1, 99);
            return thing;
        }

        private void readLock(int lock) {
            tape.needWord("lock");
            land.mask[lock] = tape.needNumber(0, MOST_FOUR_BITS);
            land.value[lock] = tape.needNumber(0, MOST_FOUR_BITS);
        }

        private int readPlaceNumber() {
            return tape.needNumber(0, land.places - 1);
        }
    }

    /**
     * THE LAW: of each LINE whether it bars or how much it slows, and its condition in postfix: a number
     * stands for itself, from TERM on come the terms, from NOT on what is done with those ahead.
     */
    private static final class Law {
        static final int MOST_LINES = 12;
        static final int TERM = 1000;
        static final int NIGHT = TERM + 7;
        static final int NOT = TERM + 8;
        static final int AND = TERM + 9;
        static final int OR = TERM + 10;
        static final int PLUS = TERM + 11;
        static final int BELOW = TERM + 12;
        static final int ABOVE = TERM + 13;
        // 6 levels of brackets hold two values open each, the innermost SUMS three more.
        private static final int MOST_OPEN = 32;

        /** NONE without a law. */
        int lines = NONE;
        /** Of each LINE the hours by which it slows; NONE, if it bars. */
        final int[] slow = new int[MOST_LINES];
        final int[] codeEnd = new int[MOST_LINES];
        final int[] code = new int[Tape.LIMIT];
        int codeSize = 0;
        private final int[] terms = new int[NOT - TERM];
        private final int[] stack = new int[MOST_OPEN];

        void copyFrom(Law other) {
            lines = other.lines;
            codeSize = other.codeSize;
            Land.copyRow(other.slow, slow);
            Land.copyRow(other.codeEnd, codeEnd);
            Land.copyRow(other.code, code);
        }

        void append(int sign) {
            if (codeSize < Tape.LIMIT) {
                code[codeSize] = sign;
                codeSize++;
            }
        }

        void tellRoad(int road, int from, int to, int time) {
            int hour = time % DAY_HOURS;
            terms[0] = road;
            terms[1] = from;
            terms[2] = to;
            terms[3] = hour;
            terms[4] = time / DAY_HOURS;
            terms[NIGHT - TERM] = hour < 6 || hour > 19 ? 1 : 0;
        }

        void tellCarried(int carried, int worth) {
            terms[5] = carried;
            terms[6] = worth;
        }

        /** Whether a LINE holds by the terms that were told last. */
        boolean holds(int line) {
            int open = 0;
            for (int i = line == 0 ? 0 : codeEnd[line - 1]; i < codeEnd[line] && i < Tape.LIMIT; i++) {
                int sign = code[i];
                if (sign < NOT && open < MOST_OPEN) {
                    stack[open] = sign < TERM ? sign : terms[sign - TERM];
                    open++;
                } else if (sign == NOT && open >= 1) {
                    stack[open - 1] = 1 - stack[open - 1];
                } else if (sign > NOT && open >= 2) {
                    open--;
                    stack[open - 1] = joined(sign, stack[open - 1], stack[open]);
                }
            }
            // A LINE without a condition leaves nothing: it always holds.
            return open == 0 || stack[0] != 0;
        }

        private static int joined(int sign, int left, int right) {
            switch (sign) {
                case AND:
                    return left & right;
                case OR:
                    return left | right;
                case BELOW:
                    return left < right ? 1 : 0;
                case ABOVE:
                    return left > right ? 1 : 0;
                default:
                    return left + right;
            }
        }
    }

    /** Reads a text of THE LAW into a draft. */
    private static final class LawReader {
        private static final int DEEPEST = 6;
        private static final int MOST_NUMBER = 999;

        private final Tape tape;
        private final Law draft;

        LawReader(Tape tape, Law draft) {
            this.tape = tape;
            this.draft = draft;
        }

        /** Uses the TAPE up: whether the text was right. */
        boolean readText() {
            tape.startText();
            draft.lines = 0;
            draft.codeSize = 0;
            boolean more = !tape.isAtEnd();
            for (int line = 0; line <= Law.MOST_LINES && more; line++) {
                if (line == Law.MOST_LINES) {
                    tape.fail();
                } else {
                    readLine(line);
                }
                more = tape.tookMark(';');
            }
            return tape.endText();
        }

        private void readLine(int line) {
            if (tape.tookWord("bar")) {
                draft.slow[line] = NONE;
            } else if (tape.tookWord("slow")) {
                draft.slow[line] = tape.needNumber(0, 9);
            } else {
                tape.fail();
            }
            if (tape.tookWord("if")) {
                readChoice(0);
            }
            draft.codeEnd[line] = draft.codeSize;
            draft.lines = line + 1;
        }

        private void readChoice(int depth) {
            readAll(depth);
            for (int i = 0; i < Tape.LIMIT && tape.tookWord("or"); i++) {
                readAll(depth);
                draft.append(Law.OR);
            }
        }

        private void readAll(int depth) {
            readAtom(depth);
            for (int i = 0; i < Tape.LIMIT && tape.tookWord("and"); i++) {
                readAtom(depth);
                draft.append(Law.AND);
            }
        }

        private void readAtom(int depth) {
            if (tape.tookWord("not")) {
                if (isTooDeep(depth)) {
                    return;
                }
                readAtom(depth + 1);
                draft.append(Law.NOT);
            } else if (tape.tookMark('(')) {
                if (isTooDeep(depth)) {
                    return;
                }
                readChoice(depth + 1);
                if (!tape.tookMark(')')) {
                    tape.fail();
                }
            } else if (tape.tookWord("night")) {
                draft.append(Law.NIGHT);
            } else {
                readSum();
                int sign = readComparison();
                readSum();
                draft.append(sign);
            }
        }

        private boolean isTooDeep(int depth) {
            if (depth < DEEPEST) {
                return false;
            }
            tape.failAt(tape.begin);
            return true;
        }

        private int readComparison() {
            if (tape.tookMark('<')) {
                return Law.BELOW;
            }
            if (!tape.tookMark('>')) {
                tape.fail();
            }
            return Law.ABOVE;
        }

        private void readSum() {
            readPart();
            for (int i = 0; i < Tape.LIMIT && tape.tookMark('+'); i++) {
                readPart();
                draft.append(Law.PLUS);
            }
        }

        private void readPart() {
            if (tape.nextIsDigit()) {
                draft.append(tape.needNumber(0, MOST_NUMBER));
            } else if (tape.tookWord("road")) {
                draft.append(Law.TERM);
            } else if (tape.tookWord("from")) {
                draft.append(Law.TERM + 1);
            } else if (tape.tookWord("to")) {
                draft.append(Law.TERM + 2);
            } else if (tape.tookWord("hour")) {
                draft.append(Law.TERM + 3);
            } else if (tape.tookWord("day")) {
                draft.append(Law.TERM + 4);
            } else if (tape.tookWord("carried")) {
                draft.append(Law.TERM + 5);
            } else if (tape.tookWord("worth")) {
                draft.append(Law.TERM + 6);
            } else {
                tape.fail();
            }
        }
    }

    /** All that ACTS change: where THE GIRL and the THINGS are, who let her PASS, who is FREED. */
    private static final class Journey {
        static final int LIES = 0;
        static final int HAD = 1;
        static final int CARRIED = 2;
        static final int LOST = 3;

        int at = 0;
        int time = 0;
        int came = NONE;
        int carried = 0;
        int lost = 0;
        int had = 0;
        int passed = 0;
        int freed = 0;
        int logged = 0;
        /** Of a THING that lies or is HAD where; NONE of a THING that is not told yet. */
        final int[] spot = new int[THINGS];
        final int[] freedAt = new int[BROTHERS];
        final int[] logPlace = new int[PLACES];
        final int[] logThing = new int[PLACES];
        final int[] logTime = new int[PLACES];

        Journey() {
            Arrays.fill(spot, NONE);
        }

        void copyFrom(Journey other) {
            at = other.at;
            time = other.time;
            came = other.came;
            carried = other.carried;
            lost = other.lost;
            had = other.had;
            passed = other.passed;
            freed = other.freed;
            logged = other.logged;
            Land.copyRow(other.spot, spot);
            Land.copyRow(other.freedAt, freedAt);
            Land.copyRow(other.logPlace, logPlace);
            Land.copyRow(other.logThing, logThing);
            Land.copyRow(other.logTime, logTime);
        }

        int lot(int thing) {
            if (bit(lost, thing) == 1) {
                return LOST;
            }
            if (bit(carried, thing) == 1) {
                return CARRIED;
            }
            return bit(had, thing) == 1 ? HAD : LIES;
        }

        /** The THINGS that lie at a PLACE. */
        int lying(int place) {
            int set = 0;
            for (int t = 0; t < THINGS; t++) {
                if (spot[t] == place && lot(t) == LIES) {
                    set |= 1 << t;
                }
            }
            return set;
        }

        void letPass(int place, int thing) {
            passed |= 1 << place;
            if (logged < PLACES) {
                logPlace[logged] = place;
                logThing[logged] = thing;
                logTime[logged] = time;
                logged++;
            }
        }

        void lose(int thing) {
            carried &= ~(1 << thing);
            lost |= 1 << thing;
        }

        /** What a KEEPER HAD is carried; without ROOM it lies where he is, which its spot tells already. */
        void receive(int gift) {
            had &= ~(1 << gift);
            if (hasRoom(carried)) {
                carried |= 1 << gift;
            }
        }
    }

    /** The ACTS that can be UNDONE: the journeys as they were ahead of the latest ones, in a ring. */
    private static final class Memory {
        private static final int LIMIT = 12;

        int size = 0;
        private int next = 0;
        private final Journey[] ring = new Journey[LIMIT];

        Memory() {
            for (int i = 0; i < LIMIT; i++) {
                ring[i] = new Journey();
            }
        }

        void keep(Journey journey) {
            ring[next].copyFrom(journey);
            next = (next + 1) % LIMIT;
            size = Math.min(size + 1, LIMIT);
        }

        boolean recall(Journey journey) {
            if (size == 0) {
                return false;
            }
            size--;
            next = (next + LIMIT - 1) % LIMIT;
            journey.copyFrom(ring[next]);
            return true;
        }
    }

    /** Whether, and how soon, THE GIRL can GO by a ROAD: for her ACTS as for the search. */
    private static final class Steps {
        /** What judging a ROAD found. */
        boolean barred = false;
        int hours = 0;
        private final Land land;
        private final Law statute;

        Steps(Land land, Law statute) {
            this.land = land;
            this.statute = statute;
        }

        void judge(int road, int from, int carried, int time) {
            barred = false;
            hours = land.hours[road];
            if (statute.lines <= 0) {
                return;
            }
            statute.tellRoad(road, from, land.otherEnd(road, from), time);
            statute.tellCarried(Integer.bitCount(carried), land.worthOf(carried));
            for (int line = 0; line < statute.lines && line < Law.MOST_LINES; line++) {
                if (statute.holds(line)) {
                    if (statute.slow[line] == NONE) {
                        barred = true;
                    } else {
                        hours += statute.slow[line];
                    }
                }
            }
        }

        /** The TIME at which she would be at the other end; NONE, if she cannot GO. */
        int arrival(int road, int from, int came, int passed, int carried, int time) {
            int to = land.otherEnd(road, from);
            if (to == NONE || (road != came && land.isHeldBy(from, passed))) {
                return NONE;
            }
            judge(road, from, carried, time);
            return barred || land.eatsAt(to, time + hours) ? NONE : time + hours;
        }
    }

    /**
     * ALL that she can come to within 30 hours. A STATE is one long: what is carried, LOST, laid down by
     * a KEEPER for want of ROOM, who let her PASS, who is FREED, the PLACE, the ROAD by which she CAME
     * and one, the hours gone. With no LAY a THING that is none of the first three is where it was.
     */
    private static final class Search {
        private static final int MOST_STATES = 6000;
        private static final int MOST_HOURS = 30;
        private static final int SLOT_BITS = 14;
        private static final int SLOTS = 1 << SLOT_BITS;
        private static final long SPREAD = 0x9E3779B97F4A7C15L;

        private static final int LOST_AT = 10;
        private static final int LAID_AT = 20;
        private static final int PASSED_AT = 30;
        private static final int FREED_AT = 40;
        private static final int PLACE_AT = 47;
        private static final int CAME_AT = 51;
        private static final int HOURS_AT = 56;
        private static final int TEN_BITS = 1023;
        private static final long BELOW_PLACE = (1L << PLACE_AT) - 1;

        private final Land land;
        private final Journey start;
        private final Steps steps;
        int size = 0;
        boolean tooMany = false;
        private int doneFor = NONE;
        private final long[] states = new long[MOST_STATES];
        /** Of each slot which STATE it tells, counted from 1; 0 of a free one. */
        private final int[] slots = new int[SLOTS];
        private final int[] openers = new int[PLACES + BROTHERS];
        private final int[] lying = new int[PLACES];
        // What the STATE that is gone on from holds.
        private int hours;
        private int place;
        private int carried;
        private int passed;

        Search(Land land, Journey start, Steps steps) {
            this.land = land;
            this.start = start;
            this.steps = steps;
        }

        /** Searches from now on, unless that was done since the last change, which is told by a number. */
        void run(int change) {
            if (doneFor == change) {
                return;
            }
            doneFor = change;
            prepare();
            add(firstState());
            for (int i = 0; i < MOST_STATES && i < size && !tooMany; i++) {
                long state = states[i];
                hours = hoursOf(state);
                place = placeOf(state);
                carried = (int) state & TEN_BITS;
                passed = passedOf(state);
                addRoads(state);
                addWait(state);
                addPays(state);
                addTakes(state);
                addFrees(state);
            }
        }

        private void prepare() {
            size = 0;
            tooMany = false;
            Arrays.fill(slots, 0);
            for (int lock = 0; lock < PLACES + BROTHERS; lock++) {
                openers[lock] = land.openers(lock);
            }
            for (int p = 0; p < PLACES; p++) {
                lying[p] = start.lying(p);
            }
        }

        private long firstState() {
            return start.carried | (long) start.lost << LOST_AT | (long) start.passed << PASSED_AT
                    | (long) start.freed << FREED_AT | (long) start.at << PLACE_AT
                    | (long) (start.came + 1) << CAME_AT;
        }

        private void add(long state) {
            int slot = (int) ((state * SPREAD) >>> (64 - SLOT_BITS));
            for (int tries = 0; tries < SLOTS && slots[slot] != 0; tries++) {
                if (states[slots[slot] - 1] == state) {
                    return;
                }
                slot = (slot + 1) % SLOTS;
            }
            if (size >= MOST_STATES) {
                tooMany = true;
                return;
            }
            states[size] = state;
            size++;
            slots[slot] = size;
        }

        private void addRoads(long state) {
            int came = (int) (state >>> CAME_AT & 31) - 1;
            for (int road = 0; road < land.roads && road < ROADS; road++) {
                int then = steps.arrival(road, place, came, passed, carried, start.time + hours);
                if (then != NONE && then - start.time <= MOST_HOURS) {
                    add(state & BELOW_PLACE | (long) land.otherEnd(road, place) << PLACE_AT
                            | (long) (road + 1) << CAME_AT | (long) (then - start.time) << HOURS_AT);
                }
            }
        }

        private void addWait(long state) {
            if (hours < MOST_HOURS && !land.eatsAt(place, start.time + hours + 1)) {
                add(state + (1L << HOURS_AT));
            }
        }

        private void addPays(long state) {
            if (!land.isHeldBy(place, passed)) {
                return;
            }
            int shown = carried & openers[place];
            for (int t = 0; t < THINGS; t++) {
                if (bit(shown, t) == 1) {
                    add(paid(state, t));
                }
            }
        }

        private long paid(long state, int thing) {
            long next = state | 1L << (PASSED_AT + place);
            int left = carried;
            if (bit(land.takers, place) == 1) {
                left &= ~(1 << thing);
                next = next & ~(1L << thing) | 1L << (LOST_AT + thing);
            }
            int gift = land.gift[place];
            if (gift == NONE) {
                return next;
            }
            return next | 1L << (hasRoom(left) ? gift : LAID_AT + gift);
        }

        private void addTakes(long state) {
            if (!hasRoom(carried)) {
                return;
            }
            int moved = carried | (int) (state >>> LOST_AT) & TEN_BITS;
            int laid = (int) (state >>> LAID_AT) & TEN_BITS;
            int gift = land.hasKeeper(place) ? land.gift[place] : NONE;
            int here = lying[place] & ~moved | (gift == NONE ? 0 : laid & 1 << gift);
            for (int t = 0; t < THINGS; t++) {
                if (bit(here, t) == 1) {
                    add(state & ~(1L << (LAID_AT + t)) | 1L << t);
                }
            }
        }

        private void addFrees(long state) {
            int freed = freedOf(state);
            for (int b = 0; b < land.brothers && b < BROTHERS; b++) {
                if (land.stay[b] == place && bit(freed, b) == 0 && (openers[PLACES + b] & carried) != 0) {
                    add(state | 1L << (FREED_AT + b));
                }
            }
        }

        int fewestHoursToFree(int brothers) {
            int best = NONE;
            for (int i = 0; i < size && i < MOST_STATES; i++) {
                if ((brothers & ~freedOf(states[i])) == 0) {
                    best = lesser(best, hoursOf(states[i]));
                }
            }
            return best;
        }

        int fewestHoursTo(int goal) {
            int best = NONE;
            for (int i = 0; i < size && i < MOST_STATES; i++) {
                if (placeOf(states[i]) == goal) {
                    best = lesser(best, hoursOf(states[i]));
                }
            }
            return best;
        }

        int leastLossToFree(int brothers) {
            int best = NONE;
            for (int i = 0; i < size && i < MOST_STATES; i++) {
                if ((brothers & ~freedOf(states[i])) == 0) {
                    int lostSince = (int) (states[i] >>> LOST_AT) & TEN_BITS & ~start.lost;
                    best = lesser(best, land.worthOf(lostSince));
                }
            }
            return best;
        }

        int everPassed() {
            int set = 0;
            for (int i = 0; i < size && i < MOST_STATES; i++) {
                set |= passedOf(states[i]);
            }
            return set;
        }

        private static int lesser(int best, int other) {
            return best == NONE ? other : Math.min(best, other);
        }

        private static int hoursOf(long state) {
            return (int) (state >>> HOURS_AT) & 31;
        }

        private static int placeOf(long state) {
            return (int) (state >>> PLACE_AT) & 15;
        }

        private static int passedOf(long state) {
            return (int) (state >>> PASSED_AT) & TEN_BITS;
        }

        private static int freedOf(long state) {
            return (int) (state >>> FREED_AT) & 127;
        }
    }

    /** Ways by LONG or by CHANCE alone: neither KEEPERS nor THE LAW are looked at. */
    private static final class Ways {
        private static final int SURE = 1000000;
        // Above any way's hours, and twice of it is still an int.
        private static final int NEVER = 1000000;

        private final Land land;
        private final int[] fromOne = new int[PLACES];
        private final int[] fromOther = new int[PLACES];

        Ways(Land land) {
            this.land = land;
        }

        /** The fewest hours from a PLACE to each one, NEVER where there is no way. */
        private void measure(int from, int[] row) {
            Arrays.fill(row, NEVER);
            row[from] = 0;
            for (int round = 0; round < PLACES; round++) {
                for (int road = 0; road < land.roads && road < ROADS; road++) {
                    int one = land.ends[2 * road];
                    int other = land.ends[2 * road + 1];
                    row[one] = Math.min(row[one], row[other] + land.hours[road]);
                    row[other] = Math.min(row[other], row[one] + land.hours[road]);
                }
            }
        }

        int fewestHours(int from, int to) {
            measure(from, fromOne);
            return fromOne[to] < NEVER ? fromOne[to] : NONE;
        }

        int meetingPlace(int one, int other) {
            measure(one, fromOne);
            measure(other, fromOther);
            int best = NONE;
            int bestHours = NEVER;
            for (int p = 0; p < land.places && p < PLACES; p++) {
                if (hoursToBothEnds(p) < bestHours) {
                    best = p;
                    bestHours = hoursToBothEnds(p);
                }
            }
            return best;
        }

        /** The hours to a PLACE for the later one of the two who were measured last. */
        int hoursToBothEnds(int place) {
            return Math.max(fromOne[place], fromOther[place]);
        }

        /** A longer way is never surer, and a surer begin never worse: so rounds over all ROADS do. */
        int greatestChance(int from, int to) {
            Arrays.fill(fromOne, 0);
            fromOne[from] = SURE;
            for (int round = 0; round < PLACES; round++) {
                for (int road = 0; road < land.roads && road < ROADS; road++) {
                    int one = land.ends[2 * road];
                    int other = land.ends[2 * road + 1];
                    fromOne[one] = Math.max(fromOne[one], fromOne[other] * land.chance[road] / 100);
                    fromOne[other] = Math.max(fromOne[other], fromOne[one] * land.chance[road] / 100);
                }
            }
            return fromOne[to];
        }

        /** SIGN: the PLACE least FAR from his among those nearer to his than to any other BROTHER's. */
        int placeFoundFirst(int brother) {
            measure(land.stay[brother], fromOne);
            int nearer = (1 << land.places) - 1;
            for (int b = 0; b < land.brothers && b < BROTHERS; b++) {
                if (b != brother) {
                    measure(land.stay[b], fromOther);
                    nearer &= placesNearerToOne();
                }
            }
            int best = NONE;
            for (int p = 0; p < land.places && p < PLACES; p++) {
                if (bit(nearer, p) == 1 && (best == NONE || fromOne[p] < fromOne[best])) {
                    best = p;
                }
            }
            return best;
        }

        private int placesNearerToOne() {
            int set = 0;
            for (int p = 0; p < PLACES; p++) {
                if (fromOne[p] < fromOther[p]) {
                    set |= 1 << p;
                }
            }
            return set;
        }
    }

    /** GATE, PLATES, TELLING LOCKS and SHIRTS. */
    private static final class Riddles {
        private static final int LATER_THAN_ALL = 1000000000;

        private final Land land;
        private final Journey journey;
        private final Tape tape;
        private final int[] order = new int[BROTHERS];
        private final int[] bestOrder = new int[BROTHERS];
        private int bestLateness;
        /** Of each set of BROTHERS that have a plate already: in how many ways the other plates go. */
        private final int[] waysOn = new int[1 << BROTHERS];

        Riddles(Land land, Journey journey, Tape tape) {
            this.land = land;
            this.journey = journey;
            this.tape = tape;
            bestLateness = LATER_THAN_ALL;
        }

        int gateAnswer(int k) {
            int brothers = Integer.bitCount(journey.freed);
            if (k < NONE || k >= brothers || k >= BROTHERS) {
                return NONE;
            }
            bestLateness = LATER_THAN_ALL;
            orderOn(0, journey.freed, 0, 0);
            return k == NONE ? bestLateness : bestOrder[k];
        }

        /** Tries all orders, the first by numbers first: only a better one takes the place of another. */
        private void orderOn(int depth, int left, int soonest, int lateness) {
            if (lateness >= bestLateness) {
                return;
            }
            if (left == 0 || depth >= BROTHERS) {
                bestLateness = lateness;
                Land.copyRow(order, bestOrder);
                return;
            }
            for (int b = 0; b < BROTHERS; b++) {
                if (bit(left, b) == 1) {
                    int comes = Math.max(soonest, journey.freedAt[b] + land.way[b]);
                    order[depth] = b;
                    orderOn(depth + 1, left & ~(1 << b), comes + 1, Math.max(lateness, comes - land.due[b]));
                }
            }
        }

        int platesAnswer(int plates, int k) {
            countWays(plates);
            if (k == NONE) {
                return waysOn[0];
            }
            int used = 0;
            int whose = NONE;
            for (int plate = 0; plate <= k; plate++) {
                whose = leastThatGoesOn(plate, used);
                if (whose == NONE) {
                    return NONE;
                }
                used |= 1 << whose;
            }
            return whose;
        }

        private void countWays(int plates) {
            for (int used = land.allBrothers(); used >= 0; used--) {
                int plate = Integer.bitCount(used);
                waysOn[used] = plate == plates ? 1 : 0;
                for (int b = 0; b < land.brothers && b < BROTHERS && plate < plates; b++) {
                    if (bit(used, b) == 0 && canBeHis(plate, b)) {
                        waysOn[used] += waysOn[used | 1 << b];
                    }
                }
            }
        }

        private int leastThatGoesOn(int plate, int used) {
            for (int b = 0; b < land.brothers && b < BROTHERS; b++) {
                if (bit(used, b) == 0 && canBeHis(plate, b) && waysOn[used | 1 << b] > 0) {
                    return b;
                }
            }
            return NONE;
        }

        private boolean canBeHis(int plate, int brother) {
            int hour = tape.bytes[2 * plate];
            int shape = tape.bytes[2 * plate + 1];
            return land.opens(shape, PLACES + brother) && land.way[brother] % DAY_HOURS <= hour;
        }

        int locksAnswer(int told, boolean least) {
            int didPass = 0;
            int didNot = 0;
            for (int i = 0; i < told && 2 * i + 1 < Tape.LIMIT; i++) {
                if (tape.bytes[2 * i + 1] == 1) {
                    didPass |= 1 << tape.bytes[2 * i];
                } else {
                    didNot |= 1 << tape.bytes[2 * i];
                }
            }
            int many = 0;
            int best = NONE;
            for (int lock = 0; lock < SHAPES * SHAPES; lock++) {
                int mask = lock / SHAPES;
                if (agrees(mask, lock % SHAPES, didPass, didNot)) {
                    many++;
                    if (best == NONE || Integer.bitCount(mask) < Integer.bitCount(best / SHAPES)) {
                        best = lock;
                    }
                }
            }
            return least ? best : many;
        }

        private static boolean agrees(int mask, int value, int didPass, int didNot) {
            if ((value & ~mask) != 0) {
                return false;
            }
            int fit = 0;
            for (int shape = 0; shape < SHAPES; shape++) {
                if ((shape & mask) == value) {
                    fit |= 1 << shape;
                }
            }
            return (didPass & ~fit) == 0 && (didNot & fit) == 0;
        }

        static int mostShirts(int n, int k, long speaks) {
            int done = 0;
            int sewn = 0;
            for (int hour = 0; hour < n; hour++) {
                sewn = (speaks >>> hour & 1) == 1 ? 0 : sewn + 1;
                if (sewn >= k) {
                    done++;
                    sewn = 0;
                }
            }
            return done;
        }

        static int mostShirtsDumb(int n, int k, long speaks) {
            int best = mostShirts(n, k, speaks);
            for (int hour = 0; hour < n; hour++) {
                if ((speaks >>> hour & 1) == 1) {
                    best = Math.max(best, mostShirts(n, k, speaks & ~(1L << hour)));
                }
            }
            return best;
        }
    }
}
