import java.util.ArrayList;
import java.util.HashSet;
import java.util.LinkedHashMap;
import java.util.List;
import java.util.NoSuchElementException;

/**
 * The document once more, told in another way: texts are cut into tokens, a law is a tree, ways are
 * tried one by one, states are texts in a set. It is slow, and is there to be compared with the class.
 */
final class Model {
    static final int NONE = -1;

    /** A wrong byte. */
    private static final class Wrong extends RuntimeException {
        private static final long serialVersionUID = 1L;
        final int at;

        Wrong(int at) {
            super(null, null, false, false);
            this.at = at;
        }
    }

    private static final class Token {
        final int at;
        final String text;

        Token(int at, String text) {
            this.at = at;
            this.text = text;
        }
    }

    private static final class Keeper implements Cloneable {
        int mask;
        int value;
        int from = NONE;
        int to = NONE;
        boolean takes;
        int has = NONE;
        boolean passed;
    }

    private static final class Thing {
        int shape;
        int worth;
        int kind;
        int place;
    }

    private static final class Brother {
        int place;
        int mask;
        int value;
        int way;
        int due;
        int freed = NONE;
    }

    private interface Cond {
        boolean holds(int[] env);
    }

    private interface Sum {
        int of(int[] env);
    }

    private static final class LawLine {
        boolean bar;
        int slow;
        Cond cond = env -> true;
    }

    /** All that the image keeps. */
    private static final class State {
        Keeper[] places = new Keeper[10];
        int placeCount;
        List<Thing> things = new ArrayList<>();
        List<int[]> roads = new ArrayList<>();
        List<Brother> brothers = new ArrayList<>();
        int texts;
        List<LawLine> law;
        int at;
        int time;
        int came = NONE;
        List<int[]> log = new ArrayList<>();

        State copy() {
            State s = new State();
            for (int i = 0; i < placeCount; i++) {
                if (places[i] != null) {
                    Keeper k = new Keeper();
                    k.mask = places[i].mask;
                    k.value = places[i].value;
                    k.from = places[i].from;
                    k.to = places[i].to;
                    k.takes = places[i].takes;
                    k.has = places[i].has;
                    k.passed = places[i].passed;
                    s.places[i] = k;
                }
            }
            s.placeCount = placeCount;
            for (Thing t : things) {
                Thing u = new Thing();
                u.shape = t.shape;
                u.worth = t.worth;
                u.kind = t.kind;
                u.place = t.place;
                s.things.add(u);
            }
            s.roads.addAll(roads);
            for (Brother b : brothers) {
                Brother c = new Brother();
                c.place = b.place;
                c.mask = b.mask;
                c.value = b.value;
                c.way = b.way;
                c.due = b.due;
                c.freed = b.freed;
                s.brothers.add(c);
            }
            s.texts = texts;
            s.law = law;
            s.at = at;
            s.time = time;
            s.came = came;
            s.log.addAll(log);
            return s;
        }

        String key(int hours) {
            StringBuilder k = new StringBuilder();
            k.append(hours).append('/').append(at).append('/').append(came).append('/');
            for (Thing t : things) {
                k.append(t.kind).append(t.kind < 2 ? t.place : 0).append(',');
            }
            for (int i = 0; i < placeCount; i++) {
                k.append(places[i] != null && places[i].passed ? 'p' : '-');
            }
            for (Brother b : brothers) {
                k.append(b.freed != NONE ? 'f' : '-');
            }
            return k.toString();
        }
    }

    private List<Integer> tape = new ArrayList<>();
    private int fault = NONE;
    private State now = new State();
    private State kept;
    private final List<State> past = new ArrayList<>();

    // ---- texts ----

    int feed(int a, int b, int c, int d, int e) {
        if (tape.size() > 380) {
            return NONE;
        }
        for (int n : new int[] {a, b, c, d, e}) {
            for (int i = 3; i >= 0; i--) {
                tape.add((n >> (8 * i)) & 0xff);
            }
        }
        return tape.size();
    }

    boolean end(int n) {
        if (n < 0 || tape.size() < n) {
            return false;
        }
        tape = new ArrayList<>(tape.subList(0, n));
        return true;
    }

    private List<Token> tokens;
    private int next;
    private int length;

    private void cut() {
        tokens = new ArrayList<>();
        next = 0;
        length = tape.size();
        StringBuilder text = new StringBuilder();
        for (int b : tape) {
            text.append((char) b);
        }
        tape = new ArrayList<>();
        java.util.regex.Matcher m = java.util.regex.Pattern
            .compile("[a-z]+|[0-9]+|[^ ]", java.util.regex.Pattern.DOTALL).matcher(text);
        while (m.find()) {
            tokens.add(new Token(m.start(), m.group()));
        }
    }

    private String peek() {
        return next < tokens.size() ? tokens.get(next).text : "";
    }

    private int place() {
        return next < tokens.size() ? tokens.get(next).at : length;
    }

    private boolean is(String text) {
        if (peek().equals(text)) {
            next++;
            return true;
        }
        return false;
    }

    private void must(String text) {
        if (!is(text)) {
            throw new Wrong(place());
        }
    }

    private int num(int low, int high) {
        String t = peek();
        if (!t.matches("[0-9]{1,3}") || Integer.parseInt(t) < low || Integer.parseInt(t) > high) {
            throw new Wrong(place());
        }
        next++;
        return Integer.parseInt(t);
    }

    int tale() {
        cut();
        State s = now.copy();
        fault = NONE;
        try {
            int lines = 0;
            if (!tokens.isEmpty()) {
                do {
                    if (++lines > 14) {
                        throw new Wrong(place());
                    }
                    taleLine(s);
                } while (is(";"));
                if (next < tokens.size()) {
                    throw new Wrong(place());
                }
            }
        } catch (Wrong w) {
            fault = w.at;
            throw new IllegalArgumentException();
        }
        if (s.texts == 12) {
            throw new UnsupportedOperationException();
        }
        s.texts++;
        now = s;
        past.clear();
        return s.texts;
    }

    private void taleLine(State s) {
        int word = place();
        if (is("place")) {
            limit(s.placeCount, 10, word);
            s.placeCount++;
        } else if (is("thing")) {
            limit(s.things.size(), 10, word);
            Thing t = shapeWorth(s);
            must("at");
            t.place = num(0, s.placeCount - 1);
        } else if (is("road")) {
            limit(s.roads.size(), 16, word);
            int one = num(0, s.placeCount - 1);
            int at = place();
            int two = num(0, s.placeCount - 1);
            if (one == two) {
                throw new Wrong(at);
            }
            must("long");
            int hours = num(1, 9);
            s.roads.add(new int[] {one, two, hours, is("chance") ? num(1, 100) : 100});
        } else if (is("keeper")) {
            int at = place();
            int p = num(0, s.placeCount - 1);
            if (s.places[p] != null) {
                throw new Wrong(at);
            }
            Keeper k = new Keeper();
            must("lock");
            k.mask = num(0, 15);
            k.value = num(0, 15);
            if (is("eats")) {
                k.from = num(0, 23);
                must("to");
                k.to = num(k.from, 23);
            }
            k.takes = is("takes");
            word = place();
            if (is("has")) {
                limit(s.things.size(), 10, word);
                Thing t = shapeWorth(s);
                t.kind = 1;
                t.place = p;
                k.has = s.things.size() - 1;
            }
            s.places[p] = k;
        } else if (is("brother")) {
            limit(s.brothers.size(), 7, word);
            Brother b = new Brother();
            b.place = num(0, s.placeCount - 1);
            must("lock");
            b.mask = num(0, 15);
            b.value = num(0, 15);
            must("way");
            b.way = num(0, 99);
            must("due");
            b.due = num(0, 999);
            s.brothers.add(b);
        } else {
            throw new Wrong(word);
        }
    }

    private void limit(int size, int most, int word) {
        if (size == most) {
            throw new Wrong(word);
        }
    }

    private Thing shapeWorth(State s) {
        Thing t = new Thing();
        t.shape = num(0, 15);
        must("worth");
        t.worth = num(1, 99);
        s.things.add(t);
        return t;
    }

    int law() {
        cut();
        List<LawLine> lines = new ArrayList<>();
        fault = NONE;
        try {
            if (!tokens.isEmpty()) {
                do {
                    if (lines.size() == 12) {
                        throw new Wrong(place());
                    }
                    LawLine line = new LawLine();
                    if (is("bar")) {
                        line.bar = true;
                    } else {
                        must("slow");
                        line.slow = num(0, 9);
                    }
                    if (is("if")) {
                        line.cond = any(0);
                    }
                    lines.add(line);
                } while (is(";"));
                if (next < tokens.size()) {
                    throw new Wrong(place());
                }
            }
        } catch (Wrong w) {
            fault = w.at;
            throw new IllegalArgumentException();
        }
        now = now.copy();
        now.law = lines;
        past.clear();
        return lines.size();
    }

    private Cond any(int deep) {
        Cond c = all(deep);
        while (is("or")) {
            Cond left = c;
            Cond right = all(deep);
            c = env -> left.holds(env) || right.holds(env);
        }
        return c;
    }

    private Cond all(int deep) {
        Cond c = atom(deep);
        while (is("and")) {
            Cond left = c;
            Cond right = atom(deep);
            c = env -> left.holds(env) && right.holds(env);
        }
        return c;
    }

    private Cond atom(int deep) {
        if (deep == 6 && (peek().equals("not") || peek().equals("("))) {
            throw new Wrong(place());
        }
        if (is("not")) {
            Cond c = atom(deep + 1);
            return env -> !c.holds(env);
        }
        if (is("(")) {
            Cond c = any(deep + 1);
            must(")");
            return c;
        }
        if (is("night")) {
            return env -> env[3] < 6 || env[3] > 19;
        }
        Sum left = sum();
        if (is("<")) {
            Sum right = sum();
            return env -> left.of(env) < right.of(env);
        }
        must(">");
        Sum right = sum();
        return env -> left.of(env) > right.of(env);
    }

    private Sum sum() {
        Sum s = part();
        while (is("+")) {
            Sum left = s;
            Sum right = part();
            s = env -> left.of(env) + right.of(env);
        }
        return s;
    }

    private Sum part() {
        String[] names = {"road", "from", "to", "hour", "day", "carried", "worth"};
        for (int i = 0; i < names.length; i++) {
            if (is(names[i])) {
                int which = i;
                return env -> env[which];
            }
        }
        int n = num(0, 999);
        return env -> n;
    }

    int fault() {
        return fault;
    }

    // ---- what there is ----

    private void index(int i, int size) {
        if (i < 0 || i >= size) {
            throw new IndexOutOfBoundsException();
        }
    }

    private void what(int w, int most) {
        if (w < 0 || w > most) {
            throw new NoSuchElementException();
        }
    }

    private void somePlace() {
        if (now.placeCount == 0) {
            throw new IllegalStateException();
        }
    }

    private static void refuse(boolean yes) {
        if (yes) {
            throw new IllegalStateException();
        }
    }

    int place(int p, int w) {
        index(p, now.placeCount);
        what(w, 8);
        if (w == 8) {
            int set = 0;
            for (int t = 0; t < now.things.size(); t++) {
                if (now.things.get(t).kind == 0 && now.things.get(t).place == p) {
                    set += 1 << t;
                }
            }
            return set;
        }
        Keeper k = now.places[p];
        if (k == null) {
            return w == 3 || w == 4 || w == 6 ? NONE : 0;
        }
        return new int[] {1, k.mask, k.value, k.from, k.to, k.takes ? 1 : 0, k.has, k.passed ? 1 : 0}[w];
    }

    int thing(int t, int w) {
        index(t, now.things.size());
        what(w, 3);
        Thing x = now.things.get(t);
        return new int[] {x.shape, x.worth, x.kind, x.kind < 2 ? x.place : NONE}[w];
    }

    int road(int r, int w) {
        index(r, now.roads.size());
        what(w, 3);
        return now.roads.get(r)[w];
    }

    int brother(int b, int w) {
        index(b, now.brothers.size());
        what(w, 6);
        Brother x = now.brothers.get(b);
        int home = x.freed == NONE ? NONE : x.freed + x.way;
        return new int[] {x.place, x.mask, x.value, x.way, x.due, x.freed, home}[w];
    }

    private static int carriedSet(State s) {
        int set = 0;
        for (int t = 0; t < s.things.size(); t++) {
            set += s.things.get(t).kind == 2 ? 1 << t : 0;
        }
        return set;
    }

    private static int worth(State s, int kind) {
        int sum = 0;
        for (Thing t : s.things) {
            sum += t.kind == kind ? t.worth : 0;
        }
        return sum;
    }

    int girl(int w) {
        what(w, 4);
        somePlace();
        return new int[] {now.at, now.time, now.came, carriedSet(now), worth(now, 2)}[w];
    }

    private static int other(State s, int r) {
        int[] road = s.roads.get(r);
        return road[0] == s.at ? road[1] : road[1] == s.at ? road[0] : NONE;
    }

    private static int[] env(State s, int r) {
        return new int[] {r, s.at, other(s, r), s.time % 24, s.time / 24,
            Integer.bitCount(carriedSet(s)), worth(s, 2)};
    }

    private static boolean barred(State s, int r) {
        boolean bars = false;
        if (s.law != null) {
            for (LawLine l : s.law) {
                bars = bars || l.bar && l.cond.holds(env(s, r));
            }
        }
        return bars;
    }

    private static int hours(State s, int r) {
        int sum = s.roads.get(r)[2];
        if (s.law != null) {
            for (LawLine l : s.law) {
                sum += !l.bar && l.cond.holds(env(s, r)) ? l.slow : 0;
            }
        }
        return sum;
    }

    private static boolean eats(State s, int p, int time) {
        Keeper k = s.places[p];
        return k != null && k.from != NONE && k.from <= time % 24 && time % 24 <= k.to;
    }

    private static boolean canGo(State s, int r) {
        int to = other(s, r);
        if (to == NONE || barred(s, r)) {
            return false;
        }
        Keeper here = s.places[s.at];
        if (here != null && !here.passed && s.came != r) {
            return false;
        }
        return !eats(s, to, s.time + hours(s, r));
    }

    int rule(int r, int w) {
        index(r, now.roads.size());
        refuse(other(now, r) == NONE);
        what(w, 2);
        return w == 0 ? (barred(now, r) ? 1 : 0) : w == 1 ? hours(now, r) : canGo(now, r) ? 1 : 0;
    }

    private static boolean fit(int shape, int mask, int value) {
        for (int bit = 1; bit < 16; bit *= 2) {
            if ((mask & bit) != 0 && (shape & bit) != (value & bit)) {
                return false;
            }
            if ((mask & bit) == 0 && (value & bit) != 0) {
                return false;
            }
        }
        return true;
    }

    boolean fits(int t, int p) {
        index(t, now.things.size());
        index(p, now.placeCount);
        refuse(now.places[p] == null);
        return fit(now.things.get(t).shape, now.places[p].mask, now.places[p].value);
    }

    int log(int k, int w) {
        what(w, 2);
        return k < 0 || k >= now.log.size() ? NONE : now.log.get(k)[w];
    }

    // ---- steps ----

    private static void doGo(State s, int r) {
        int hours = hours(s, r);
        s.at = other(s, r);
        s.time += hours;
        s.came = r;
    }

    private static boolean canPay(State s, int t) {
        Keeper k = s.places[s.at];
        Thing x = s.things.get(t);
        return k != null && !k.passed && x.kind == 2 && fit(x.shape, k.mask, k.value);
    }

    private static int doPay(State s, int t) {
        Keeper k = s.places[s.at];
        k.passed = true;
        s.log.add(new int[] {s.at, t, s.time});
        if (k.takes) {
            s.things.get(t).kind = 3;
        }
        int gave = k.has;
        if (gave != NONE) {
            boolean room = Integer.bitCount(carriedSet(s)) < 4;
            s.things.get(gave).kind = room ? 2 : 0;
            s.things.get(gave).place = s.at;
        }
        k.has = NONE;
        return gave;
    }

    private static boolean canTake(State s, int t) {
        Thing x = s.things.get(t);
        return x.kind == 0 && x.place == s.at && Integer.bitCount(carriedSet(s)) < 4;
    }

    private static boolean canFree(State s, int b) {
        Brother x = s.brothers.get(b);
        boolean key = false;
        for (Thing t : s.things) {
            key = key || t.kind == 2 && fit(t.shape, x.mask, x.value);
        }
        return key && x.place == s.at && x.freed == NONE;
    }

    private void act() {
        past.add(now);
        if (past.size() > 12) {
            past.remove(0);
        }
        now = now.copy();
    }

    int go(int r) {
        index(r, now.roads.size());
        refuse(!canGo(now, r));
        act();
        doGo(now, r);
        return now.time;
    }

    int delay(int n) {
        if (n < 1 || n > 48) {
            throw new IllegalArgumentException();
        }
        somePlace();
        refuse(eats(now, now.at, now.time + 1));
        act();
        int waited = 0;
        for (; waited < n && !eats(now, now.at, now.time + 1); waited++) {
            now.time++;
        }
        return waited;
    }

    int pay(int t) {
        index(t, now.things.size());
        refuse(!canPay(now, t));
        act();
        return doPay(now, t);
    }

    int take(int t) {
        index(t, now.things.size());
        refuse(!canTake(now, t));
        act();
        now.things.get(t).kind = 2;
        return Integer.bitCount(carriedSet(now));
    }

    int lay(int t) {
        index(t, now.things.size());
        refuse(now.things.get(t).kind != 2);
        act();
        now.things.get(t).kind = 0;
        now.things.get(t).place = now.at;
        return Integer.bitCount(carriedSet(now));
    }

    private static int freedSet(State s) {
        int set = 0;
        for (int b = 0; b < s.brothers.size(); b++) {
            set += s.brothers.get(b).freed != NONE ? 1 << b : 0;
        }
        return set;
    }

    int free(int b) {
        index(b, now.brothers.size());
        refuse(!canFree(now, b));
        act();
        now.brothers.get(b).freed = now.time;
        return Integer.bitCount(freedSet(now));
    }

    boolean undo() {
        if (past.isEmpty()) {
            return false;
        }
        now = past.remove(past.size() - 1);
        return true;
    }

    void image() {
        kept = now.copy();
    }

    boolean back() {
        if (kept == null) {
            return false;
        }
        now = kept.copy();
        past.clear();
        return true;
    }

    // ---- all that she can come to ----

    private State searchedFor;
    private List<State> found;

    /** All states; null, if they are too many. */
    private List<State> all() {
        if (searchedFor == now) {
            return found;
        }
        LinkedHashMap<String, State> seen = new LinkedHashMap<>();
        List<State> queue = new ArrayList<>();
        visit(seen, queue, now.copy());
        for (int i = 0; i < queue.size() && seen.size() <= 6000; i++) {
            State s = queue.get(i);
            for (int r = 0; r < s.roads.size(); r++) {
                if (canGo(s, r)) {
                    State n = s.copy();
                    doGo(n, r);
                    visit(seen, queue, n);
                }
            }
            if (!eats(s, s.at, s.time + 1)) {
                State n = s.copy();
                n.time++;
                visit(seen, queue, n);
            }
            for (int t = 0; t < s.things.size(); t++) {
                if (canPay(s, t)) {
                    State n = s.copy();
                    doPay(n, t);
                    visit(seen, queue, n);
                }
                if (canTake(s, t)) {
                    State n = s.copy();
                    n.things.get(t).kind = 2;
                    visit(seen, queue, n);
                }
            }
            for (int b = 0; b < s.brothers.size(); b++) {
                if (canFree(s, b)) {
                    State n = s.copy();
                    n.brothers.get(b).freed = n.time;
                    visit(seen, queue, n);
                }
            }
        }
        searchedFor = now;
        found = seen.size() > 6000 ? null : queue;
        return found;
    }

    private void visit(LinkedHashMap<String, State> seen, List<State> queue, State n) {
        if (n.time - now.time > 30) {
            return;
        }
        if (seen.putIfAbsent(n.key(n.time - now.time), n) == null) {
            queue.add(n);
        }
    }

    private static int min(int best, int other) {
        return best == NONE || other < best ? other : best;
    }

    private int real(int brothers) {
        return brothers & ((1 << now.brothers.size()) - 1);
    }

    int soonest(int brothers) {
        somePlace();
        if (all() == null) {
            return -3;
        }
        int best = NONE;
        for (State s : all()) {
            if ((freedSet(s) & real(brothers)) == real(brothers)) {
                best = min(best, s.time - now.time);
            }
        }
        return best;
    }

    int reached(int p) {
        index(p, now.placeCount);
        if (all() == null) {
            return -3;
        }
        int best = NONE;
        for (State s : all()) {
            if (s.at == p) {
                best = min(best, s.time - now.time);
            }
        }
        return best;
    }

    int spared(int brothers) {
        somePlace();
        if (all() == null) {
            return -3;
        }
        int best = NONE;
        for (State s : all()) {
            if ((freedSet(s) & real(brothers)) == real(brothers)) {
                best = min(best, worth(s, 3) - worth(now, 3));
            }
        }
        return best;
    }

    int locked(boolean states) {
        somePlace();
        if (all() == null) {
            return -3;
        }
        if (states) {
            return all().size();
        }
        int set = 0;
        for (int p = 0; p < now.placeCount; p++) {
            boolean shut = now.places[p] != null;
            for (State s : all()) {
                shut = shut && !s.places[p].passed;
            }
            set += shut ? 1 << p : 0;
        }
        return set;
    }

    // ---- what stands in ----

    /** Of each lock that is shut: its bit, mask, value. */
    private List<int[]> shut() {
        List<int[]> list = new ArrayList<>();
        for (int p = 0; p < now.placeCount; p++) {
            if (now.places[p] != null && !now.places[p].passed) {
                list.add(new int[] {p, now.places[p].mask, now.places[p].value});
            }
        }
        for (int b = 0; b < now.brothers.size(); b++) {
            if (now.brothers.get(b).freed == NONE) {
                list.add(new int[] {10 + b, now.brothers.get(b).mask, now.brothers.get(b).value});
            }
        }
        return list;
    }

    int stands(int t, boolean least) {
        index(t, now.things.size());
        int set = 0;
        int best = NONE;
        for (int u = 0; u < now.things.size(); u++) {
            boolean in = u != t && now.things.get(u).kind != 3;
            for (int[] lock : shut()) {
                in = in && (!fit(now.things.get(t).shape, lock[1], lock[2])
                    || fit(now.things.get(u).shape, lock[1], lock[2]));
            }
            if (in) {
                set += 1 << u;
                best = best == NONE || now.things.get(u).worth < now.things.get(best).worth ? u : best;
            }
        }
        return least ? best : set;
    }

    int needed() {
        int set = 0;
        for (int[] lock : shut()) {
            boolean some = false;
            for (Thing t : now.things) {
                some = some || t.kind != 3 && fit(t.shape, lock[1], lock[2]);
            }
            set += some ? 0 : 1 << lock[0];
        }
        return set;
    }

    // ---- ways, tried one by one ----

    private int walk(int at, int to, int seen, int hours) {
        if (at == to) {
            return hours;
        }
        int best = NONE;
        for (int[] r : now.roads) {
            int n = r[0] == at ? r[1] : r[1] == at ? r[0] : NONE;
            if (n != NONE && (seen >> n & 1) == 0) {
                int w = walk(n, to, seen | 1 << n, hours + r[2]);
                best = w == NONE ? best : min(best, w);
            }
        }
        return best;
    }

    private int sure(int at, int to, int seen, int chance) {
        if (at == to) {
            return chance;
        }
        int best = 0;
        for (int[] r : now.roads) {
            int n = r[0] == at ? r[1] : r[1] == at ? r[0] : NONE;
            if (n != NONE && (seen >> n & 1) == 0) {
                best = Math.max(best, sure(n, to, seen | 1 << n, chance * r[3] / 100));
            }
        }
        return best;
    }

    int far(int a, int b) {
        index(a, now.placeCount);
        index(b, now.placeCount);
        return walk(a, b, 1 << a, 0);
    }

    int turnBack(int time) {
        if (time < 0 || time > 100000) {
            throw new IllegalArgumentException();
        }
        somePlace();
        int w = far(now.at, 0);
        return w == NONE || time - w < now.time ? NONE : time - w;
    }

    int meet(int a, int b, boolean where) {
        index(a, now.placeCount);
        index(b, now.placeCount);
        int best = NONE;
        int at = NONE;
        for (int p = 0; p < now.placeCount; p++) {
            int x = far(a, p);
            int y = far(b, p);
            if (x != NONE && y != NONE && (best == NONE || Math.max(x, y) < best)) {
                best = Math.max(x, y);
                at = p;
            }
        }
        return where ? at : best;
    }

    int surest(int a, int b) {
        index(a, now.placeCount);
        index(b, now.placeCount);
        return sure(a, b, 1 << a, 1000000);
    }

    int sign(int b) {
        index(b, now.brothers.size());
        int best = NONE;
        int least = NONE;
        for (int p = 0; p < now.placeCount; p++) {
            int his = far(p, now.brothers.get(b).place);
            boolean first = true;
            for (int o = 0; o < now.brothers.size(); o++) {
                int theirs = far(p, now.brothers.get(o).place);
                first = first && (o == b || his != NONE && (theirs == NONE || his < theirs));
            }
            if (first && his != NONE && (best == NONE || his < least)) {
                best = p;
                least = his;
            }
        }
        return best;
    }

    // ---- riddles ----

    private int gateLate;
    private List<Integer> gateOrder;

    private void orders(List<Integer> order, int left) {
        if (left == 0) {
            int hour = -1;
            int late = 0;
            for (int b : order) {
                hour = Math.max(hour + 1, brother(b, 6));
                late = Math.max(late, hour - brother(b, 4));
            }
            if (gateOrder == null || late < gateLate) {
                gateLate = late;
                gateOrder = new ArrayList<>(order);
            }
            return;
        }
        for (int b = 0; b < 7; b++) {
            if ((left >> b & 1) == 1) {
                order.add(b);
                orders(order, left & ~(1 << b));
                order.remove(order.size() - 1);
            }
        }
    }

    int gate(int k) {
        gateOrder = null;
        gateLate = 0;
        orders(new ArrayList<>(), freedSet(now));
        return k == NONE ? gateLate : k >= 0 && k < gateOrder.size() ? gateOrder.get(k) : NONE;
    }

    private int plateWays;
    private List<Integer> plateFirst;

    private void plateOn(List<Integer> told, List<Integer> given) {
        int i = given.size();
        if (2 * i == told.size()) {
            plateWays++;
            plateFirst = plateFirst == null ? new ArrayList<>(given) : plateFirst;
            return;
        }
        for (int b = 0; b < now.brothers.size(); b++) {
            Brother x = now.brothers.get(b);
            if (!given.contains(b) && fit(told.get(2 * i + 1), x.mask, x.value) && x.way % 24 <= told.get(2 * i)) {
                given.add(b);
                plateOn(told, given);
                given.remove(given.size() - 1);
            }
        }
    }

    int plates(int k) {
        List<Integer> told = tape;
        tape = new ArrayList<>();
        boolean wrong = told.size() % 2 == 1 || told.size() > 14 || k < -1 || k >= told.size() / 2;
        for (int i = 0; i < told.size(); i++) {
            wrong = wrong || told.get(i) > (i % 2 == 0 ? 23 : 15);
        }
        if (wrong) {
            throw new IllegalArgumentException();
        }
        plateWays = 0;
        plateFirst = null;
        plateOn(told, new ArrayList<>());
        return k == NONE ? plateWays : plateFirst == null ? NONE : plateFirst.get(k);
    }

    int locks(boolean least) {
        List<Integer> told = tape;
        tape = new ArrayList<>();
        boolean wrong = told.size() % 2 == 1;
        for (int i = 0; i < told.size(); i++) {
            wrong = wrong || told.get(i) > (i % 2 == 0 ? 15 : 1);
        }
        if (wrong) {
            throw new IllegalArgumentException();
        }
        int many = 0;
        int best = NONE;
        for (int bits = 0; bits <= 4; bits++) {
            for (int mask = 0; mask < 16; mask++) {
                for (int value = 0; value < 16 && Integer.bitCount(mask) == bits; value++) {
                    boolean good = (value | mask) == mask;
                    for (int i = 0; i + 1 < told.size(); i += 2) {
                        good = good && fit(told.get(i), mask, value) == (told.get(i + 1) == 1);
                    }
                    if (good) {
                        many++;
                        best = best == NONE ? 16 * mask + value : best;
                    }
                }
            }
        }
        return least ? best : many;
    }

    /** The most shirts by trying in every hour to sew or to rest. */
    private static int sew(int hour, int n, int k, long speaks, int begun, int[][] known) {
        if (hour == n) {
            return 0;
        }
        if (known[hour][begun] != 0) {
            return known[hour][begun] - 1;
        }
        int best;
        if ((speaks >> hour & 1) == 1) {
            best = sew(hour + 1, n, k, speaks, 0, known);
        } else {
            best = sew(hour + 1, n, k, speaks, begun, known);
            int done = begun + 1 == k ? 1 : 0;
            best = Math.max(best, done + sew(hour + 1, n, k, speaks, done == 1 ? 0 : begun + 1, known));
        }
        known[hour][begun] = best + 1;
        return best;
    }

    int shirts(int n, int k, long speaks, boolean dumb) {
        if (n < 1 || n > 64 || k < 1 || k > 9) {
            throw new IllegalArgumentException();
        }
        int best = sew(0, n, k, speaks, 0, new int[64][9]);
        for (int h = 0; h < n && dumb; h++) {
            best = Math.max(best, sew(0, n, k, speaks & ~(1L << h), 0, new int[64][9]));
        }
        return best;
    }

    int count(int w) {
        int keepers = 0;
        int passed = 0;
        for (int p = 0; p < now.placeCount; p++) {
            keepers += now.places[p] != null ? 1 : 0;
            passed += now.places[p] != null && now.places[p].passed ? 1 << p : 0;
        }
        int lost = 0;
        for (int t = 0; t < now.things.size(); t++) {
            lost += now.things.get(t).kind == 3 ? 1 << t : 0;
        }
        int[] all = {now.placeCount, now.things.size(), now.roads.size(), now.brothers.size(), keepers,
            now.texts, now.law == null ? NONE : now.law.size(), now.time, passed, freedSet(now), lost,
            worth(now, 3), past.size()};
        return w < 0 || w >= all.length ? NONE : all[w];
    }
}
