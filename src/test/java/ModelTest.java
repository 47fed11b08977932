import java.lang.reflect.InvocationTargetException;
import java.lang.reflect.Method;
import java.util.ArrayList;
import java.util.Arrays;
import java.util.List;
import java.util.Random;

/** Compares the class with the Model, call by call, over runs that are drawn from fixed seeds. */
public final class ModelTest {
    private static final int CALLS = 512;

    private final Random random;
    private final GlassHill hill = new GlassHill();
    private final Model model = new Model();
    private final long seed;
    private final List<String> trace = new ArrayList<>();
    private int calls = 0;
    private boolean failed = false;
    private static final java.util.TreeMap<String, int[]> SEEN = new java.util.TreeMap<>();

    private ModelTest(long seed) {
        this.seed = seed;
        random = new Random(seed);
    }

    public static void main(String[] args) {
        int runs = args.length > 0 ? Integer.parseInt(args[0]) : 150;
        long first = args.length > 1 ? Long.parseLong(args[1]) : 1;
        for (long seed = first; seed < first + runs; seed++) {
            ModelTest test = new ModelTest(seed);
            test.run();
            Checks.due("run of seed " + seed, false, test.failed);
        }
        if (args.length > 0) {
            for (java.util.Map.Entry<String, int[]> e : SEEN.entrySet()) {
                System.out.println(e.getKey() + ": " + e.getValue()[0]);
            }
        }
        Checks.finish("ModelTest");
    }

    private int below(int n) {
        return random.nextInt(n);
    }

    private boolean chance(int inHundred) {
        return below(100) < inHundred;
    }

    // ---- calls ----

    private static String outcome(Object target, String name, Object[] args) {
        for (Method m : target.getClass().getDeclaredMethods()) {
            if (m.getName().equals(name) && m.getParameterCount() == args.length
                && !java.lang.reflect.Modifier.isPrivate(m.getModifiers())) {
                try {
                    m.setAccessible(true);
                    return String.valueOf(m.invoke(target, args));
                } catch (InvocationTargetException e) {
                    return "throws " + e.getCause().getClass().getSimpleName();
                } catch (IllegalAccessException e) {
                    throw new AssertionError(e);
                }
            }
        }
        throw new AssertionError(name);
    }

    private String call(String name, Object... args) {
        if (calls >= CALLS || failed) {
            return "";
        }
        calls++;
        String want = outcome(model, name, args);
        String got = outcome(hill, name, args);
        String row = name + Arrays.toString(args) + " = " + want;
        trace.add(row);
        String kind = want.startsWith("throws") || want.equals("-1") || want.equals("-3") ? want : "some";
        SEEN.computeIfAbsent(name + " " + kind, k -> new int[1])[0]++;
        if (!want.equals(got)) {
            failed = true;
            System.out.println("seed " + seed + ":");
            for (String line : trace) {
                System.out.println("  " + line);
            }
            System.out.println("  but the class answered " + got);
        }
        return want;
    }

    private void tape(int... bytes) {
        call("end", 0);
        for (int at = 0; at < bytes.length; at += 20) {
            int[] five = new int[5];
            for (int i = 0; i < 20 && at + i < bytes.length; i++) {
                five[i / 4] |= (bytes[at + i] & 255) << (24 - 8 * (i % 4));
            }
            call("feed", five[0], five[1], five[2], five[3], five[4]);
        }
        call("end", bytes.length);
    }

    private void text(String text) {
        trace.add("-- \"" + text + "\"");
        int[] bytes = new int[text.length()];
        for (int i = 0; i < bytes.length; i++) {
            bytes[i] = text.charAt(i);
        }
        tape(bytes);
    }

    // ---- texts ----

    // What there will be behind the lines told so far; only a draw in a hundred tells too much.
    private int places = 0;
    private int things = 0;
    private int brothers = 0;
    private int keepers = 0;

    private String line() {
        int kind = places < 3 ? 0 : below(15);
        boolean wild = chance(1);
        if (kind < 2 && (places < 7 || wild)) {
            places++;
            return "place";
        }
        if (kind < 5 && (things < 9 || wild)) {
            things++;
            return "thing " + below(16) + " worth " + (1 + below(99)) + " at " + (chance(60) ? 0 : below(places));
        }
        if (kind >= 9 && kind < 12) {
            int p = below(places);
            if ((keepers >> p & 1) == 0 || wild) {
                keepers |= 1 << p;
                return "keeper " + p + " lock " + lock() + keeperEnd();
            }
        }
        if (kind >= 12 && (brothers < 7 || wild)) {
            brothers++;
            return "brother " + below(places) + " lock " + lock() + " way " + below(100) + " due "
                + below(chance(50) ? 100 : 1000);
        }
        int one = below(places);
        int other = wild ? below(places) : (one + 1 + below(places - 1)) % places;
        return "road " + one + " " + other + " long " + (1 + below(chance(70) ? 4 : 9))
            + (chance(40) ? " chance " + (1 + below(100)) : "");
    }

    private String keeperEnd() {
        int from = below(24);
        String end = (chance(40) ? " eats " + from + " to " + Math.min(23, from + below(6)) : "")
            + (chance(50) ? " takes" : "");
        if (chance(40) && things < 9) {
            things++;
            end += " has " + below(16) + " worth " + (1 + below(99));
        }
        return end;
    }

    private String lock() {
        int mask = chance(20) ? 0 : chance(60) ? 1 << below(4) : below(16);
        int value = chance(90) ? mask & below(16) : below(16);
        return mask + " " + value;
    }

    private String tale() {
        places = has(0);
        things = has(1);
        brothers = has(3);
        keepers = 0;
        for (int p = 0; p < places; p++) {
            keepers += Integer.parseInt(outcome(model, "place", new Object[] {p, 0})) << p;
        }
        int lines = places == 0 ? 8 + below(7) : 1 + below(chance(5) ? 15 : 10);
        StringBuilder text = new StringBuilder();
        for (int i = 0; i < lines && text.length() < 360; i++) {
            text.append(i == 0 ? "" : ";").append(line());
        }
        return text.toString();
    }

    private String sum() {
        String[] parts = {"road", "from", "to", "hour", "day", "carried", "worth", "" + below(30), "" + below(1000)};
        String s = parts[below(parts.length)];
        return chance(25) ? s + " + " + parts[below(parts.length)] : s;
    }

    private String condition(int deep) {
        switch (below(deep > 3 ? 4 : 8)) {
            case 0:
                return "night";
            case 4:
                return "not " + condition(deep + 1);
            case 5:
                return "(" + condition(deep + 1) + ")";
            case 6:
                return condition(deep + 1) + " and " + condition(deep + 1);
            case 7:
                return condition(deep + 1) + " or " + condition(deep + 1);
            default:
                return sum() + (chance(50) ? " < " : " > ") + sum();
        }
    }

    private String law() {
        int lines = below(5);
        StringBuilder text = new StringBuilder();
        for (int i = 0; i < lines; i++) {
            text.append(i == 0 ? "" : ";").append(chance(40) ? "bar" : "slow " + below(4));
            text.append(chance(90) ? " if " + condition(0) : "");
        }
        return text.length() > 400 ? "slow 1 if night" : text.toString();
    }

    /** The same with a byte less, more or other here and there. */
    private String spoilt(String text) {
        StringBuilder s = new StringBuilder(text);
        String signs = " ;()<>+0123456789abno\u00ff\u0000AZ`{/:";
        for (int i = 0; i <= below(2); i++) {
            int at = below(s.length() + 1);
            char sign = signs.charAt(below(signs.length()));
            switch (below(4)) {
                case 0:
                    s.insert(at, sign);
                    break;
                case 1:
                    s.setLength(at);
                    break;
                default:
                    if (at < s.length()) {
                        if (chance(50)) {
                            s.deleteCharAt(at);
                        } else {
                            s.setCharAt(at, sign);
                        }
                    }
            }
        }
        s.setLength(Math.min(s.length(), 400));
        return s.toString();
    }

    private String blanked(String text) {
        StringBuilder s = new StringBuilder();
        for (int i = 0; i < text.length(); i++) {
            char c = text.charAt(i);
            boolean apart = c == ';' || c == '(' || c == ')' || c == '<' || c == '>' || c == '+';
            s.append(apart && chance(20) ? " " : "").append(c).append(apart && chance(20) ? "  " : "");
        }
        return s.length() > 395 ? text : chance(20) ? "  " + s + " " : s.toString();
    }

    private void tellTale(int spoiltInHundred) {
        String tale = blanked(tale());
        text(chance(spoiltInHundred) ? spoilt(tale) : tale);
        call("tale");
        call("fault");
    }

    private void tellLaw() {
        String law = blanked(law());
        text(chance(30) ? spoilt(law) : law);
        call("law");
        call("fault");
    }

    // ---- a run ----

    private int some(int n) {
        return chance(3) ? new int[] {-1, n, Integer.MIN_VALUE, Integer.MAX_VALUE, n + 7}[below(5)] : below(Math.max(n, 1));
    }

    private int has(int what) {
        return Integer.parseInt(outcome(model, "count", new Object[] {what}));
    }

    private void run() {
        for (int i = 0; i < 4 && has(5) < 2; i++) {
            tellTale(i == 0 ? 20 : 10);
        }
        if (chance(40)) {
            tellLaw();
        }
        while (calls < CALLS && !failed) {
            int pick = below(100);
            if (pick < 55) {
                act();
            } else if (pick < 75) {
                ask();
            } else if (pick < 90) {
                search();
            } else if (pick < 94) {
                riddle();
            } else if (pick < 96) {
                tellTale(30);
            } else if (pick < 97) {
                tellLaw();
            } else if (pick < 98) {
                call("image");
            } else if (pick < 99) {
                call("back");
            } else {
                call("end", below(30) - 3);
            }
        }
    }

    private void act() {
        switch (below(9)) {
            case 0:
            case 1:
                goSomewhere();
                break;
            case 2:
                call("delay", chance(5) ? below(60) - 3 : 1 + below(6));
                break;
            case 3:
                for (int t = 0; t < has(1); t++) {
                    call("pay", t);
                }
                break;
            case 4:
                call("pay", some(has(1)));
                break;
            case 5:
            case 6:
                for (int t = 0; t < has(1); t++) {
                    call("take", t);
                }
                break;
            case 7:
                call(chance(40) ? "lay" : "take", some(has(1)));
                break;
            default:
                for (int b = 0; b < has(3); b++) {
                    call("free", b);
                }
                call("free", some(has(3)));
        }
        for (int i = 0; chance(10) && i < 14; i++) {
            call("undo");
        }
        call("count", 12);
    }

    private void goSomewhere() {
        int roads = has(2);
        for (int i = 0; i < 6; i++) {
            if (!call("go", some(roads)).startsWith("throws")) {
                return;
            }
        }
    }

    private void ask() {
        int p = has(0);
        int t = has(1);
        int r = has(2);
        int b = has(3);
        call("place", some(p), some(9));
        call("thing", some(t), some(4));
        call("road", some(r), some(4));
        call("brother", some(b), some(7));
        call("girl", some(5));
        call("rule", some(r), some(3));
        call("rule", some(r), some(3));
        call("rule", some(r), some(3));
        call("fits", some(t), some(p));
        call("stands", some(t), chance(50));
        call("needed");
        call("far", some(p), some(p));
        call("turnBack", chance(5) ? below(200000) - 100 : below(500));
        call("meet", some(p), some(p), chance(50));
        call("surest", some(p), some(p));
        call("gate", below(9) - 1);
        call("gate", -1);
        call("sign", some(b));
        call("log", some(5), some(3));
        call("count", below(15) - 1);
    }

    private void search() {
        call("locked", true);
        call("locked", false);
        call("soonest", chance(10) ? -1 : below(16));
        call("spared", chance(10) ? -1 : below(16));
        call("reached", some(has(0)));
    }

    private void riddle() {
        int n = chance(10) ? below(10) : below(4);
        int[] pairs = new int[2 * n + (chance(5) ? 1 : 0)];
        for (int i = 0; i < pairs.length; i++) {
            pairs[i] = i % 2 == 0 ? below(chance(3) ? 26 : 24) : below(chance(3) ? 18 : 16);
        }
        tape(pairs);
        call("plates", chance(50) ? -1 : below(n + 1));
        for (int i = 0; i < pairs.length; i++) {
            pairs[i] = i % 2 == 0 ? below(chance(3) ? 17 : 16) : below(chance(3) ? 3 : 2);
        }
        tape(pairs);
        call("locks", chance(50));
        long speaks = random.nextLong() & random.nextLong() & random.nextLong();
        call("shirts", chance(5) ? below(70) - 2 : 1 + below(64), chance(5) ? below(12) - 1 : 1 + below(9), speaks, chance(50));
    }
}
