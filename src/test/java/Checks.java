import java.nio.charset.StandardCharsets;

/** What the tests share: feeding texts, and comparing answers with the due ones. */
final class Checks {
    interface Call {
        long answer();
    }

    private static int wrong = 0;
    private static int done = 0;

    private Checks() {
    }

    static void due(String what, long want, long got) {
        done++;
        if (got != want) {
            wrong++;
            System.out.println(what + " answered " + got + ", due is " + want);
        }
    }

    static void due(String what, boolean want, boolean got) {
        due(what, want ? 1 : 0, got ? 1 : 0);
    }

    static void refused(String what, Class<? extends RuntimeException> want, Call call) {
        done++;
        try {
            long got = call.answer();
            wrong++;
            System.out.println(what + " answered " + got + ", due is " + want.getSimpleName());
        } catch (RuntimeException e) {
            if (e.getClass() != want) {
                wrong++;
                System.out.println(what + " threw " + e + ", due is " + want.getSimpleName());
            }
        }
    }

    static void outOfBounds(String what, Call call) {
        refused(what, IndexOutOfBoundsException.class, call);
    }

    static void illegalState(String what, Call call) {
        refused(what, IllegalStateException.class, call);
    }

    static void illegalArgument(String what, Call call) {
        refused(what, IllegalArgumentException.class, call);
    }

    static void noSuchElement(String what, Call call) {
        refused(what, java.util.NoSuchElementException.class, call);
    }

    static void unsupported(String what, Call call) {
        refused(what, UnsupportedOperationException.class, call);
    }

    /** Puts these bytes, and no others, on the TAPE. */
    static void tape(GlassHill hill, int... bytes) {
        hill.end(0);
        for (int at = 0; at < bytes.length; at += 20) {
            int[] five = new int[5];
            for (int i = 0; i < 20; i++) {
                int value = at + i < bytes.length ? bytes[at + i] & 255 : 0;
                five[i / 4] |= value << (24 - 8 * (i % 4));
            }
            hill.feed(five[0], five[1], five[2], five[3], five[4]);
        }
        hill.end(bytes.length);
    }

    static void tape(GlassHill hill, String text) {
        byte[] bytes = text.getBytes(StandardCharsets.ISO_8859_1);
        int[] numbers = new int[bytes.length];
        for (int i = 0; i < bytes.length; i++) {
            numbers[i] = bytes[i] & 255;
        }
        tape(hill, numbers);
    }

    static int tale(GlassHill hill, String text) {
        tape(hill, text);
        return hill.tale();
    }

    static int law(GlassHill hill, String text) {
        tape(hill, text);
        return hill.law();
    }

    static GlassHill told(String... texts) {
        GlassHill hill = new GlassHill();
        for (String text : texts) {
            tale(hill, text);
        }
        return hill;
    }

    /** A tale that is wrong at a byte. */
    static void wrongTale(GlassHill hill, String text, int at) {
        tape(hill, text);
        illegalArgument("tale \"" + text + "\"", hill::tale);
        due("fault of tale \"" + text + "\"", at, hill.fault());
        due("the tape behind it", 20, hill.feed(0, 0, 0, 0, 0));
    }

    static void rightTale(GlassHill hill, String text) {
        int texts = hill.count(5);
        due("tale \"" + text + "\"", texts + 1, tale(hill, text));
        due("fault of tale \"" + text + "\"", GlassHill.NONE, hill.fault());
    }

    static void wrongLaw(GlassHill hill, String text, int at) {
        tape(hill, text);
        illegalArgument("law \"" + text + "\"", hill::law);
        due("fault of law \"" + text + "\"", at, hill.fault());
    }

    static void rightLaw(GlassHill hill, String text, int lines) {
        due("law \"" + text + "\"", lines, law(hill, text));
        due("fault of law \"" + text + "\"", GlassHill.NONE, hill.fault());
        due("lines of law \"" + text + "\"", lines, hill.count(6));
    }

    static void finish(String test) {
        System.out.println(test + ": " + done + " checks, " + wrong + " wrong");
        if (wrong != 0) {
            System.exit(1);
        }
    }
}
