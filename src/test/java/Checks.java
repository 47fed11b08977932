import java.nio.charset.StandardCharsets;

/** What the tests share: feeding texts, and comparing answers with the due ones. */
final class Checks {
    interface Call {
        long answer();
    }

    private static int wrong = 0;
    private static int done = 0;

    private Checks() {
    }

    static void due(String what, long want, long got) {
        done++;
        if (got != want) {
            wrong++;
            System.out.println(what + " answered " + got + ", due is " + want);
        }
    }

    static void due(String what, boolean want, boolean got) {
        due(what, want ? 1 : 0, got ? 1 : 0);
    }

    static void refused(String what, Class<? extends RuntimeException> want, Call call) {
        done++;
        try {
            long got = call.answer();
            wrong++;
            System.out.println(what + " answered " + got + ", due is " + want.getSimpleName());
        } catch (RuntimeException e) {
            if (e.getClass() != want) {
                wrong++;
                System.out.println(what + " threw " + e + ", due is " + want.getSimpleName());
            }
        }
    }

    static void outOfBounds(String what, Call call) {
        refused(what, IndexOutOfBoundsException.class, call);
    }

    static void illegalState(String what, Call call) {
        refused(what, IllegalStateException.class, call);
    }

    static void illegalArgument(String what, Call call) {
        refused(what, IllegalArgumentException.class, call);
    }

    static void noSuchElement(String what, Call call) {
        refused(what, java.util.NoSuchElementException.class, call);
    }

    static void unsupported(String what, Call call) {
        refused(what, UnsupportedOperationException.class, call);
    }

    /** Puts these bytes, and no others, on the TAPE. */
    static void tape(GlassHill hill, int... bytes) {
        hill.end(0);
        for (int at = 0; at < bytes.length; at += 20) {
            int[] five = new int[5];
            for (int i = 0; i < 20; i++) {
                int value = at + i < bytes.length ? bytes[at + i] & 255 : 0;
                five[i / 4] |= value << (24 - 8 * (i % 4));
            }
            hill.feed(five[0], five[1], five[2], five[3], five[4]);
        }
        hill.end(bytes.length);
    }

    static void tape(GlassHill hill, String text) {
        byte[] bytes = text.getBytes(StandardCharsets.ISO_8859_1);
        int[] numbers = new int[bytes.length];
        for (int i = 0; i < bytes.length; i++) {
            numbers[i] = bytes[i] & 255;
        }
        tape(hill, numbers);
    }

    static int tale(GlassHill hill, String text) {
        tape(hill, text);
        return hill.tale();
    }

    static int law(GlassHill hill, String text) {
        tape(hill, text);
        return hill.law();
    }

    static GlassHill told(String... texts) {
        GlassHill hill = new GlassHill();
        for (String text : texts) {
            tale(hill, text);
        }
        return hill;
    }

    /** A tale that is wrong at a byte. */
    static void wrongTale(GlassHill hill, String text, int at) {
        tape(hill, text);
        illegalArgument("tale \"" + text + "\"", hill::tale);
        due("fault of tale \"" + text + "\"", at, hill.fault());
        due("the tape behind it", 20, hill.feed(0, 0, 0, 0, 0));
    }

    static void rightTale(GlassHill hill, String text) {
        int texts = hill.count(5);
        due("tale \"" + text + "\"", texts + 1, tale(hill, text));
        due("fault of tale \"" + text + "\"", GlassHill.NONE, hill.fault());
    }

    static void wrongLaw(GlassHill hill, String text, int at) {
        tape(hill, text);
        illegalArgument("law \"" + text + "\"", hill::law);
        due("fault of law \"" + text + "\"", at, hill.fault());
    }

    static void rightLaw(GlassHill hill, String text, int lines) {
        due("law \"" + text + "\"", lines, law(hill, text));
        due("fault of law \"" + text + "\"", GlassHill.NONE, hill.fault());
        due("lines of law \"" + text + "\"", lines, hill.count(6));
    }

    /** The same LINE so many times, as one text. */
    static String times(String line, int n) {
        StringBuilder text = new StringBuilder();
        for (int i = 0; i < n; i++) {
            text.append(i == 0 ? "" : ";").append(line);
        }
        return text.toString();
    }

    /** BROTHERS who are FREED at TIME 0, each told as "way N due N". */
    static GlassHill freed(String... brothers) {
        StringBuilder text = new StringBuilder("place;thing 0 worth 1 at 0");
        for (String b : brothers) {
            text.append(";brother 0 lock 0 0 ").append(b);
        }
        GlassHill x = told(text.toString());
        x.take(0);
        for (int b = 0; b < brothers.length; b++) {
            x.free(b);
        }
        return x;
    }

    private interface Asked {
        int answer(int which, int what);
    }

    private static void row(StringBuilder s, int many, int whats, Asked asked) {
        for (int i = 0; i < many; i++) {
            for (int what = 0; what < whats; what++) {
                s.append(asked.answer(i, what)).append(' ');
            }
        }
        s.append("| ");
    }

    /** All that can be asked of what there is, as one text. */
    static String all(GlassHill x) {
        StringBuilder s = new StringBuilder();
        row(s, 1, 13, (i, what) -> x.count(what));
        row(s, x.count(0), 9, x::place);
        row(s, x.count(1), 4, x::thing);
        row(s, x.count(2), 4, x::road);
        row(s, x.count(3), 7, x::brother);
        row(s, x.count(0) == 0 ? 0 : 1, 5, (i, what) -> x.girl(what));
        row(s, Integer.bitCount(x.count(8)) + 1, 3, x::log);
        row(s, 1, 2, (i, what) -> x.gate(what - 1));
        row(s, 1, x.count(0) == 0 ? 0 : 2, (i, what) -> x.locked(what == 1));
        return s.toString();
    }

    static void same(String what, String want, GlassHill x) {
        String got = all(x);
        due(what + ": " + want + " / " + got, true, want.equals(got));
    }

    static void finish(String test) {
        System.out.println(test + ": " + done + " checks, " + wrong + " wrong");
        if (wrong != 0) {
            System.exit(1);
        }
    }
}
